theorem c_isField {L d : Nat} {f : Int32} {D : m_D} {Q : m_K} (h : Q (some (.int (if 0 ≤ f ∧ f < 4 then 1 else 0))) D) : m_call L (d + 1) 85 [.int f] D Q := by
  refine v_in (tb' := t_X4_isField) (rk' := 2) rfl rfl rfl ?_
  refine v_go rfl ?_
  refine v_br rfl (fun h1 => ?_) (fun h1 => ?_)
  · refine v_go rfl ?_
    refine v_rt rfl (Or.inl rfl) ?_
    rwa [if_neg (fun z => absurd h1 (Int32.not_lt.mpr z.1))] at h
  · refine v_go rfl ?_
    refine v_br rfl (fun h2 => ?_) (fun h2 => ?_)
    · refine v_go rfl ?_
      refine v_rt rfl (Or.inl rfl) ?_
      rwa [if_neg (fun z => absurd z.2 (Int32.not_lt.mpr h2))] at h
    · refine v_go rfl ?_
      refine v_rt rfl (Or.inr rfl) ?_
      rwa [if_pos ⟨Int32.not_lt.mp h1, Int32.not_le.mp h2⟩] at h
theorem c_hor {L d : Nat} {cr l : Int32} {D : m_D} {Q : m_K} (hc : vp_in cr 3) (hp : ¬ D 5 cr.toNatClampNeg < 1) (h : Q (some (.int (if l < D 6 cr.toNatClampNeg then -9 else (l - D 6 cr.toNatClampNeg) / D 5 cr.toNatClampNeg))) D) : m_call L (d + 1) 13 [.ref 1, .int cr, .int l] D Q := by
  refine v_in (tb' := t_X2_hourOfReading) (rk' := 1) rfl rfl rfl ?_
  repeat' (refine v_go rfl ?_; first | refine v_br rfl (fun h1 => ?_) (fun h1 => ?_) | refine v_rt rfl ?_ ?_ | refine v_sd rfl ?_ ?_)

