/-! ===== the law, over the small machine: its loop, call by call ===== -/
abbrev law_l (k : Nat) : m_Lc := [some (.ref 60), some (.ref 0), some (.ref 34), some (.int (nI (6 * k)))]
abbrev law_N (L k : Nat) (Q : m_K) : Prop := ∀ (Z' : ZS) (D' : m_D), okZ Z' → InvC Z' D' → InvM Z' D' → m_V L 8 Q t_L_law 2 (1224, law_l k, [], D')
abbrev law_a (D : m_D) (k : Nat) (c : Int32) : Int32 := D 60 (nI (6 * k) + c).toNatClampNeg
def law_v (L k : Nat) : Prop := vp_in (nI (6 * k)) L ∧ vp_in (nI (6 * k) + 1) L ∧ vp_in (nI (6 * k) + 2) L ∧ vp_in (nI (6 * k) + 3) L ∧ vp_in (nI (6 * k) + 4) L ∧ vp_in (nI (6 * k) + 5) L
theorem law_v_of {L k : Nat} (hL : L ≤ 3072) (hk : 6 * k + 6 ≤ L) : law_v L k := by
  have h : ∀ j, j < 6 → vp_in (nI (6 * k) + nI j) L := fun j hj => by
    rw [nI_add, vp_in_iff, nI_toInt (by omega)]
    omega
  refine ⟨?_, h 1 (by omega), h 2 (by omega), h 3 (by omega), h 4 (by omega), h 5 (by omega)⟩
  rw [vp_in_iff, nI_toInt (by omega)]
  omega
theorem law_MC {Z : ZS} {D D1 : m_D} (h : InvM Z D) (f : frC D D1) : InvM Z D1 := InvM_keep h (fun a ha => f a (by omega)) (fun j _ => congrFun (f 34 (by omega)) j)
theorem law_CM {Z : ZS} {D D1 : m_D} (h : InvC Z D) (f : frM D D1) : InvC Z D1 := InvC_keep h (fun a ha => f a (by omega))
theorem m_cs_of {X : Nat → Prop} {x : Int32} {d : Nat} (hd : X d) : ∀ cs : List (Int32 × Nat), (∀ q ∈ cs, X q.2) → m_cs X x d cs
  | [], _ => hd
  | (_, _) :: r, h => ⟨fun _ => h _ List.mem_cons_self, fun _ => m_cs_of hd r (fun q hq => h q (List.mem_cons_of_mem _ hq))⟩
theorem law_cmp (v : Int64) : lg_cmp v v = 0 := by
  unfold lg_cmp
  rw [if_neg (fun h => by rw [gt_iff_lt, Int64.lt_iff_toInt_lt] at h; omega), if_pos rfl]
theorem law_lt {L k : Nat} (hL : L ≤ 3072) (hk : 6 * k ≤ 3078) : Int32.ofNat L - 6 < nI (6 * k) ↔ L < 6 * k + 6 := by
  have e1 : (Int32.ofNat L).toInt = (L : Int) := nI_toInt (n := L) (by omega)
  have e2 : (6 : Int32).toInt = 6 := by decide
  rw [Int32.lt_iff_toInt_lt, Int32.toInt_sub, e1, e2, nI_toInt (by omega), Int.bmod_eq_of_le (by omega) (by omega)]
  omega
set_option maxRecDepth 100000 in
set_option maxHeartbeats 4000000 in
theorem law_0 {L k : Nat} {Q : m_K} {Z : ZS} {D : m_D} (hv : law_v L k) (hz : okZ Z) (hC : InvC Z D) (hM : InvM Z D) (h : law_N L k Q) : m_V L 8 Q t_L_law 2 (176, law_l k, [], D) := by
  obtain ⟨h0, h1, h2, h3, h4, h5⟩ := hv
  obtain ⟨v, Z', hz', c1, c2⟩ := (s_shower (law_a D k 1) (law_a D k 2) (law_a D k 3) (law_a D k 4)) L Z hz
  refine v_go rfl ?_
  refine v_sd rfl h1 ?_
  refine v_go rfl ?_
  refine v_sd rfl h2 ?_
  refine v_go rfl ?_
  refine v_sd rfl h3 ?_
  refine v_go rfl ?_
  refine v_sd rfl h4 ?_
  refine v_ca rfl ?_
  refine c1 D _ hC (fun D1 f1 hC1 => ?_)
  have hM1 := law_MC hM f1
  have e1 : D1 60 = D 60 := f1 60 (by omega)
  unfold law_a at c2
  rw [← e1] at c2
  refine v_go rfl ?_
  refine v_sd rfl h1 ?_
  refine v_go rfl ?_
  refine v_sd rfl h2 ?_
  refine v_go rfl ?_
  refine v_sd rfl h3 ?_
  refine v_go rfl ?_
  refine v_sd rfl h4 ?_
  refine v_ca rfl ?_
  refine c2 D1 _ hM1 (fun D2 f2 hM2 => ?_)
  have hC2 := law_CM hC1 f2
  refine v_bT rfl rfl ?_
  exact h Z' D2 hz' hC2 hM2
set_option maxRecDepth 100000 in
set_option maxHeartbeats 4000000 in
theorem law_1 {L k : Nat} {Q : m_K} {Z : ZS} {D : m_D} (hv : law_v L k) (hz : okZ Z) (hC : InvC Z D) (hM : InvM Z D) (h : law_N L k Q) : m_V L 8 Q t_L_law 2 (229, law_l k, [], D) := by
  obtain ⟨h0, h1, h2, h3, h4, h5⟩ := hv
  obtain ⟨v, Z', hz', c1, c2⟩ := (s_ofLine (law_a D k 1) (law_a D k 2)) L Z hz
  refine v_go rfl ?_
  refine v_sd rfl h1 ?_
  refine v_go rfl ?_
  refine v_sd rfl h2 ?_
  refine v_ca rfl ?_
  refine c1 D _ hC (fun D1 f1 hC1 => ?_)
  have hM1 := law_MC hM f1
  have e1 : D1 60 = D 60 := f1 60 (by omega)
  unfold law_a at c2
  rw [← e1] at c2
  refine v_go rfl ?_
  refine v_sd rfl h1 ?_
  refine v_go rfl ?_
  refine v_sd rfl h2 ?_
  refine v_ca rfl ?_
  refine c2 D1 _ hM1 (fun D2 f2 hM2 => ?_)
  have hC2 := law_CM hC1 f2
  refine v_bT rfl rfl ?_
  exact h Z' D2 hz' hC2 hM2
set_option maxRecDepth 100000 in
set_option maxHeartbeats 4000000 in
theorem law_2 {L k : Nat} {Q : m_K} {Z : ZS} {D : m_D} (hv : law_v L k) (hz : okZ Z) (hC : InvC Z D) (hM : InvM Z D) (h : law_N L k Q) : m_V L 8 Q t_L_law 2 (262, law_l k, [], D) := by
  obtain ⟨h0, h1, h2, h3, h4, h5⟩ := hv
  obtain ⟨v, Z', hz', c1, c2⟩ := (s_ofCrier (law_a D k 1) (law_a D k 2)) L Z hz
  refine v_go rfl ?_
  refine v_sd rfl h1 ?_
  refine v_go rfl ?_
  refine v_sd rfl h2 ?_
  refine v_ca rfl ?_
  refine c1 D _ hC (fun D1 f1 hC1 => ?_)
  have hM1 := law_MC hM f1
  have e1 : D1 60 = D 60 := f1 60 (by omega)
  unfold law_a at c2
  rw [← e1] at c2
  refine v_go rfl ?_
  refine v_sd rfl h1 ?_
  refine v_go rfl ?_
  refine v_sd rfl h2 ?_
  refine v_ca rfl ?_
  refine c2 D1 _ hM1 (fun D2 f2 hM2 => ?_)
  have hC2 := law_CM hC1 f2
  refine v_bT rfl rfl ?_
  exact h Z' D2 hz' hC2 hM2
set_option maxRecDepth 100000 in
set_option maxHeartbeats 4000000 in
theorem law_3 {L k : Nat} {Q : m_K} {Z : ZS} {D : m_D} (hv : law_v L k) (hz : okZ Z) (hC : InvC Z D) (hM : InvM Z D) (h : law_N L k Q) : m_V L 8 Q t_L_law 2 (295, law_l k, [], D) := by
  obtain ⟨h0, h1, h2, h3, h4, h5⟩ := hv
  obtain ⟨v, Z', hz', c1, c2⟩ := (s_print (law_a D k 1) (law_a D k 2)) L Z hz
  refine v_go rfl ?_
  refine v_sd rfl h1 ?_
  refine v_go rfl ?_
  refine v_sd rfl h2 ?_
  refine v_ca rfl ?_
  refine c1 D _ hC (fun D1 f1 hC1 => ?_)
  have hM1 := law_MC hM f1
  have e1 : D1 60 = D 60 := f1 60 (by omega)
  unfold law_a at c2
  rw [← e1] at c2
  refine v_go rfl ?_
  refine v_sd rfl h1 ?_
  refine v_go rfl ?_
  refine v_sd rfl h2 ?_
  refine v_ca rfl ?_
  refine c2 D1 _ hM1 (fun D2 f2 hM2 => ?_)
  have hC2 := law_CM hC1 f2
  refine v_bT rfl rfl ?_
  exact h Z' D2 hz' hC2 hM2
set_option maxRecDepth 100000 in
set_option maxHeartbeats 4000000 in
theorem law_4 {L k : Nat} {Q : m_K} {Z : ZS} {D : m_D} (hv : law_v L k) (hz : okZ Z) (hC : InvC Z D) (hM : InvM Z D) (h : law_N L k Q) : m_V L 8 Q t_L_law 2 (328, law_l k, [], D) := by
  obtain ⟨h0, h1, h2, h3, h4, h5⟩ := hv
  obtain ⟨v, Z', hz', c1, c2⟩ := (s_begin (law_a D k 1) (law_a D k 2)) L Z hz
  refine v_go rfl ?_
  refine v_sd rfl h1 ?_
  refine v_go rfl ?_
  refine v_sd rfl h2 ?_
  refine v_ca rfl ?_
  refine c1 D _ hC (fun D1 f1 hC1 => ?_)
  have hM1 := law_MC hM f1
  have e1 : D1 60 = D 60 := f1 60 (by omega)
  unfold law_a at c2
  rw [← e1] at c2
  refine v_go rfl ?_
  refine v_sd rfl h1 ?_
  refine v_go rfl ?_
  refine v_sd rfl h2 ?_
  refine v_ca rfl ?_
  refine c2 D1 _ hM1 (fun D2 f2 hM2 => ?_)
  have hC2 := law_CM hC1 f2
  refine v_bT rfl rfl ?_
  exact h Z' D2 hz' hC2 hM2
set_option maxRecDepth 100000 in
set_option maxHeartbeats 4000000 in
theorem law_5 {L k : Nat} {Q : m_K} {Z : ZS} {D : m_D} (hv : law_v L k) (hz : okZ Z) (hC : InvC Z D) (hM : InvM Z D) (h : law_N L k Q) : m_V L 8 Q t_L_law 2 (361, law_l k, [], D) := by
  obtain ⟨h0, h1, h2, h3, h4, h5⟩ := hv
  obtain ⟨v, Z', hz', c1, c2⟩ := (s_cough (law_a D k 1) (law_a D k 2)) L Z hz
  refine v_go rfl ?_
  refine v_sd rfl h1 ?_
  refine v_go rfl ?_
  refine v_sd rfl h2 ?_
  refine v_ca rfl ?_
  refine c1 D _ hC (fun D1 f1 hC1 => ?_)
  have hM1 := law_MC hM f1
  have e1 : D1 60 = D 60 := f1 60 (by omega)
  unfold law_a at c2
  rw [← e1] at c2
  refine v_go rfl ?_
  refine v_sd rfl h1 ?_
  refine v_go rfl ?_
  refine v_sd rfl h2 ?_
  refine v_ca rfl ?_
  refine c2 D1 _ hM1 (fun D2 f2 hM2 => ?_)
  have hC2 := law_CM hC1 f2
  refine v_bT rfl rfl ?_
  exact h Z' D2 hz' hC2 hM2
set_option maxRecDepth 100000 in
set_option maxHeartbeats 4000000 in
theorem law_6 {L k : Nat} {Q : m_K} {Z : ZS} {D : m_D} (hv : law_v L k) (hz : okZ Z) (hC : InvC Z D) (hM : InvM Z D) (h : law_N L k Q) : m_V L 8 Q t_L_law 2 (394, law_l k, [], D) := by
  obtain ⟨h0, h1, h2, h3, h4, h5⟩ := hv
  obtain ⟨v, Z', hz', c1, c2⟩ := (s_comes (law_a D k 1) (law_a D k 2)) L Z hz
  refine v_go rfl ?_
  refine v_sd rfl h1 ?_
  refine v_go rfl ?_
  refine v_sd rfl h2 ?_
  refine v_ca rfl ?_
  refine c1 D _ hC (fun D1 f1 hC1 => ?_)
  have hM1 := law_MC hM f1
  have e1 : D1 60 = D 60 := f1 60 (by omega)
  unfold law_a at c2
  rw [← e1] at c2
  refine v_go rfl ?_
  refine v_sd rfl h1 ?_
  refine v_go rfl ?_
  refine v_sd rfl h2 ?_
  refine v_ca rfl ?_
  refine c2 D1 _ hM1 (fun D2 f2 hM2 => ?_)
  have hC2 := law_CM hC1 f2
  refine v_bT rfl rfl ?_
  exact h Z' D2 hz' hC2 hM2
set_option maxRecDepth 100000 in
set_option maxHeartbeats 4000000 in
theorem law_7 {L k : Nat} {Q : m_K} {Z : ZS} {D : m_D} (hv : law_v L k) (hz : okZ Z) (hC : InvC Z D) (hM : InvM Z D) (h : law_N L k Q) : m_V L 8 Q t_L_law 2 (427, law_l k, [], D) := by
  obtain ⟨h0, h1, h2, h3, h4, h5⟩ := hv
  obtain ⟨v, Z', hz', c1, c2⟩ := (s_wet (law_a D k 1)) L Z hz
  refine v_go rfl ?_
  refine v_sd rfl h1 ?_
  refine v_ca rfl ?_
  refine c1 D _ hC (fun D1 f1 hC1 => ?_)
  have hM1 := law_MC hM f1
  have e1 : D1 60 = D 60 := f1 60 (by omega)
  unfold law_a at c2
  rw [← e1] at c2
  refine v_go rfl ?_
  refine v_sd rfl h1 ?_
  refine v_ca rfl ?_
  refine c2 D1 _ hM1 (fun D2 f2 hM2 => ?_)
  have hC2 := law_CM hC1 f2
  refine v_bT rfl rfl ?_
  exact h Z' D2 hz' hC2 hM2
set_option maxRecDepth 100000 in
set_option maxHeartbeats 4000000 in
theorem law_8 {L k : Nat} {Q : m_K} {Z : ZS} {D : m_D} (hv : law_v L k) (hz : okZ Z) (hC : InvC Z D) (hM : InvM Z D) (h : law_N L k Q) : m_V L 8 Q t_L_law 2 (450, law_l k, [], D) := by
  obtain ⟨h0, h1, h2, h3, h4, h5⟩ := hv
  obtain ⟨v, Z', hz', c1, c2⟩ := (s_day (law_a D k 1) (law_a D k 2) (law_a D k 3) (law_a D k 4) (law_a D k 5)) L Z hz
  refine v_go rfl ?_
  refine v_sd rfl h1 ?_
  refine v_go rfl ?_
  refine v_sd rfl h2 ?_
  refine v_go rfl ?_
  refine v_sd rfl h3 ?_
  refine v_go rfl ?_
  refine v_sd rfl h4 ?_
  refine v_go rfl ?_
  refine v_sd rfl h5 ?_
  refine v_ca rfl ?_
  refine c1 D _ hC (fun D1 f1 hC1 => ?_)
  have hM1 := law_MC hM f1
  have e1 : D1 60 = D 60 := f1 60 (by omega)
  unfold law_a at c2
  rw [← e1] at c2
  refine v_go rfl ?_
  refine v_sd rfl h1 ?_
  refine v_go rfl ?_
  refine v_sd rfl h2 ?_
  refine v_go rfl ?_
  refine v_sd rfl h3 ?_
  refine v_go rfl ?_
  refine v_sd rfl h4 ?_
  refine v_go rfl ?_
  refine v_sd rfl h5 ?_
  refine v_ca rfl ?_
  refine c2 D1 _ hM1 (fun D2 f2 hM2 => ?_)
  have hC2 := law_CM hC1 f2
  refine v_bT rfl rfl ?_
  exact h Z' D2 hz' hC2 hM2
set_option maxRecDepth 100000 in
set_option maxHeartbeats 4000000 in
theorem law_9 {L k : Nat} {Q : m_K} {Z : ZS} {D : m_D} (hv : law_v L k) (hz : okZ Z) (hC : InvC Z D) (hM : InvM Z D) (h : law_N L k Q) : m_V L 8 Q t_L_law 2 (513, law_l k, [], D) := by
  obtain ⟨h0, h1, h2, h3, h4, h5⟩ := hv
  obtain ⟨v, Z', hz', c1, c2⟩ := (s_whole (law_a D k 1)) L Z hz
  refine v_go rfl ?_
  refine v_sd rfl h1 ?_
  refine v_ca rfl ?_
  refine c1 D _ hC (fun D1 f1 hC1 => ?_)
  have hM1 := law_MC hM f1
  have e1 : D1 60 = D 60 := f1 60 (by omega)
  unfold law_a at c2
  rw [← e1] at c2
  refine v_go rfl ?_
  refine v_sd rfl h1 ?_
  refine v_ca rfl ?_
  refine c2 D1 _ hM1 (fun D2 f2 hM2 => ?_)
  have hC2 := law_CM hC1 f2
  refine v_bT rfl rfl ?_
  exact h Z' D2 hz' hC2 hM2
set_option maxRecDepth 100000 in
set_option maxHeartbeats 4000000 in
theorem law_10 {L k : Nat} {Q : m_K} {Z : ZS} {D : m_D} (hv : law_v L k) (hz : okZ Z) (hC : InvC Z D) (hM : InvM Z D) (h : law_N L k Q) : m_V L 8 Q t_L_law 2 (536, law_l k, [], D) := by
  obtain ⟨h0, h1, h2, h3, h4, h5⟩ := hv
  obtain ⟨v, Z', hz', c1, c2⟩ := (s_most (law_a D k 1)) L Z hz
  refine v_go rfl ?_
  refine v_sd rfl h1 ?_
  refine v_ca rfl ?_
  refine c1 D _ hC (fun D1 f1 hC1 => ?_)
  have hM1 := law_MC hM f1
  have e1 : D1 60 = D 60 := f1 60 (by omega)
  unfold law_a at c2
  rw [← e1] at c2
  refine v_go rfl ?_
  refine v_sd rfl h1 ?_
  refine v_ca rfl ?_
  refine c2 D1 _ hM1 (fun D2 f2 hM2 => ?_)
  have hC2 := law_CM hC1 f2
  refine v_bT rfl rfl ?_
  exact h Z' D2 hz' hC2 hM2
set_option maxRecDepth 100000 in
set_option maxHeartbeats 4000000 in
theorem law_11 {L k : Nat} {Q : m_K} {Z : ZS} {D : m_D} (hv : law_v L k) (hz : okZ Z) (hC : InvC Z D) (hM : InvM Z D) (h : law_N L k Q) : m_V L 8 Q t_L_law 2 (559, law_l k, [], D) := by
  obtain ⟨h0, h1, h2, h3, h4, h5⟩ := hv
  obtain ⟨v, Z', hz', c1, c2⟩ := (s_strayed (law_a D k 1) (law_a D k 2)) L Z hz
  refine v_go rfl ?_
  refine v_sd rfl h1 ?_
  refine v_go rfl ?_
  refine v_sd rfl h2 ?_
  refine v_ca rfl ?_
  refine c1 D _ hC (fun D1 f1 hC1 => ?_)
  have hM1 := law_MC hM f1
  have e1 : D1 60 = D 60 := f1 60 (by omega)
  unfold law_a at c2
  rw [← e1] at c2
  refine v_go rfl ?_
  refine v_sd rfl h1 ?_
  refine v_go rfl ?_
  refine v_sd rfl h2 ?_
  refine v_ca rfl ?_
  refine c2 D1 _ hM1 (fun D2 f2 hM2 => ?_)
  have hC2 := law_CM hC1 f2
  refine v_bT rfl rfl ?_
  exact h Z' D2 hz' hC2 hM2
set_option maxRecDepth 100000 in
set_option maxHeartbeats 4000000 in
theorem law_12 {L k : Nat} {Q : m_K} {Z : ZS} {D : m_D} (hv : law_v L k) (hz : okZ Z) (hC : InvC Z D) (hM : InvM Z D) (h : law_N L k Q) : m_V L 8 Q t_L_law 2 (592, law_l k, [], D) := by
  obtain ⟨h0, h1, h2, h3, h4, h5⟩ := hv
  obtain ⟨v, Z', hz', c1, c2⟩ := (s_saved (law_a D k 1) (law_a D k 2)) L Z hz
  refine v_go rfl ?_
  refine v_sd rfl h1 ?_
  refine v_go rfl ?_
  refine v_sd rfl h2 ?_
  refine v_ca rfl ?_
  refine c1 D _ hC (fun D1 f1 hC1 => ?_)
  have hM1 := law_MC hM f1
  have e1 : D1 60 = D 60 := f1 60 (by omega)
  unfold law_a at c2
  rw [← e1] at c2
  refine v_go rfl ?_
  refine v_sd rfl h1 ?_
  refine v_go rfl ?_
  refine v_sd rfl h2 ?_
  refine v_ca rfl ?_
  refine c2 D1 _ hM1 (fun D2 f2 hM2 => ?_)
  have hC2 := law_CM hC1 f2
  refine v_bT rfl rfl ?_
  exact h Z' D2 hz' hC2 hM2
set_option maxRecDepth 100000 in
set_option maxHeartbeats 4000000 in
theorem law_13 {L k : Nat} {Q : m_K} {Z : ZS} {D : m_D} (hv : law_v L k) (hz : okZ Z) (hC : InvC Z D) (hM : InvM Z D) (h : law_N L k Q) : m_V L 8 Q t_L_law 2 (625, law_l k, [], D) := by
  obtain ⟨h0, h1, h2, h3, h4, h5⟩ := hv
  obtain ⟨v, Z', hz', c1, c2⟩ := (s_misprint (law_a D k 1) (law_a D k 2) (law_a D k 3)) L Z hz
  refine v_go rfl ?_
  refine v_sd rfl h1 ?_
  refine v_go rfl ?_
  refine v_sd rfl h2 ?_
  refine v_go rfl ?_
  refine v_sd rfl h3 ?_
  refine v_ca rfl ?_
  refine c1 D _ hC (fun D1 f1 hC1 => ?_)
  have hM1 := law_MC hM f1
  have e1 : D1 60 = D 60 := f1 60 (by omega)
  unfold law_a at c2
  rw [← e1] at c2
  refine v_go rfl ?_
  refine v_sd rfl h1 ?_
  refine v_go rfl ?_
  refine v_sd rfl h2 ?_
  refine v_go rfl ?_
  refine v_sd rfl h3 ?_
  refine v_ca rfl ?_
  refine c2 D1 _ hM1 (fun D2 f2 hM2 => ?_)
  have hC2 := law_CM hC1 f2
  refine v_bT rfl rfl ?_
  exact h Z' D2 hz' hC2 hM2
set_option maxRecDepth 100000 in
set_option maxHeartbeats 4000000 in
theorem law_14 {L k : Nat} {Q : m_K} {Z : ZS} {D : m_D} (hv : law_v L k) (hz : okZ Z) (hC : InvC Z D) (hM : InvM Z D) (h : law_N L k Q) : m_V L 8 Q t_L_law 2 (668, law_l k, [], D) := by
  obtain ⟨h0, h1, h2, h3, h4, h5⟩ := hv
  obtain ⟨v, Z', hz', c1, c2⟩ := (s_rests (law_a D k 1) (law_a D k 2) (law_a D k 3)) L Z hz
  refine v_go rfl ?_
  refine v_sd rfl h1 ?_
  refine v_go rfl ?_
  refine v_sd rfl h2 ?_
  refine v_go rfl ?_
  refine v_sd rfl h3 ?_
  refine v_ca rfl ?_
  refine c1 D _ hC (fun D1 f1 hC1 => ?_)
  have hM1 := law_MC hM f1
  have e1 : D1 60 = D 60 := f1 60 (by omega)
  unfold law_a at c2
  rw [← e1] at c2
  refine v_go rfl ?_
  refine v_sd rfl h1 ?_
  refine v_go rfl ?_
  refine v_sd rfl h2 ?_
  refine v_go rfl ?_
  refine v_sd rfl h3 ?_
  refine v_ca rfl ?_
  refine c2 D1 _ hM1 (fun D2 f2 hM2 => ?_)
  have hC2 := law_CM hC1 f2
  refine v_bT rfl rfl ?_
  exact h Z' D2 hz' hC2 hM2
set_option maxRecDepth 100000 in
set_option maxHeartbeats 4000000 in
theorem law_15 {L k : Nat} {Q : m_K} {Z : ZS} {D : m_D} (hv : law_v L k) (hz : okZ Z) (hC : InvC Z D) (hM : InvM Z D) (h : law_N L k Q) : m_V L 8 Q t_L_law 2 (711, law_l k, [], D) := by
  obtain ⟨h0, h1, h2, h3, h4, h5⟩ := hv
  obtain ⟨v, Z', hz', c1, c2⟩ := (s_reading (law_a D k 1) (law_a D k 2)) L Z hz
  refine v_go rfl ?_
  refine v_sd rfl h1 ?_
  refine v_go rfl ?_
  refine v_sd rfl h2 ?_
  refine v_ca rfl ?_
  refine c1 D _ hC (fun D1 f1 hC1 => ?_)
  have hM1 := law_MC hM f1
  have e1 : D1 60 = D 60 := f1 60 (by omega)
  unfold law_a at c2
  rw [← e1] at c2
  refine v_go rfl ?_
  refine v_sd rfl h1 ?_
  refine v_go rfl ?_
  refine v_sd rfl h2 ?_
  refine v_ca rfl ?_
  refine c2 D1 _ hM1 (fun D2 f2 hM2 => ?_)
  have hC2 := law_CM hC1 f2
  refine v_bT rfl rfl ?_
  exact h Z' D2 hz' hC2 hM2
set_option maxRecDepth 100000 in
set_option maxHeartbeats 4000000 in
theorem law_16 {L k : Nat} {Q : m_K} {Z : ZS} {D : m_D} (hv : law_v L k) (hz : okZ Z) (hC : InvC Z D) (hM : InvM Z D) (h : law_N L k Q) : m_V L 8 Q t_L_law 2 (744, law_l k, [], D) := by
  obtain ⟨h0, h1, h2, h3, h4, h5⟩ := hv
  obtain ⟨v, Z', hz', c1, c2⟩ := (s_back (law_a D k 1)) L Z hz
  refine v_go rfl ?_
  refine v_sd rfl h1 ?_
  refine v_ca rfl ?_
  refine c1 D _ hC (fun D1 f1 hC1 => ?_)
  have hM1 := law_MC hM f1
  have e1 : D1 60 = D 60 := f1 60 (by omega)
  unfold law_a at c2
  rw [← e1] at c2
  refine v_go rfl ?_
  refine v_sd rfl h1 ?_
  refine v_ca rfl ?_
  refine c2 D1 _ hM1 (fun D2 f2 hM2 => ?_)
  have hC2 := law_CM hC1 f2
  refine v_bT rfl rfl ?_
  exact h Z' D2 hz' hC2 hM2
set_option maxRecDepth 100000 in
set_option maxHeartbeats 4000000 in
theorem law_17 {L k : Nat} {Q : m_K} {Z : ZS} {D : m_D} (hv : law_v L k) (hz : okZ Z) (hC : InvC Z D) (hM : InvM Z D) (h : law_N L k Q) : m_V L 8 Q t_L_law 2 (767, law_l k, [], D) := by
  obtain ⟨h0, h1, h2, h3, h4, h5⟩ := hv
  obtain ⟨v, Z', hz', c1, c2⟩ := (s_kinds (law_a D k 1)) L Z hz
  refine v_go rfl ?_
  refine v_sd rfl h1 ?_
  refine v_ca rfl ?_
  refine c1 D _ hC (fun D1 f1 hC1 => ?_)
  have hM1 := law_MC hM f1
  have e1 : D1 60 = D 60 := f1 60 (by omega)
  unfold law_a at c2
  rw [← e1] at c2
  refine v_go rfl ?_
  refine v_sd rfl h1 ?_
  refine v_ca rfl ?_
  refine c2 D1 _ hM1 (fun D2 f2 hM2 => ?_)
  have hC2 := law_CM hC1 f2
  refine v_bT rfl rfl ?_
  exact h Z' D2 hz' hC2 hM2
set_option maxRecDepth 100000 in
set_option maxHeartbeats 4000000 in
theorem law_18 {L k : Nat} {Q : m_K} {Z : ZS} {D : m_D} (hv : law_v L k) (hz : okZ Z) (hC : InvC Z D) (hM : InvM Z D) (h : law_N L k Q) : m_V L 8 Q t_L_law 2 (790, law_l k, [], D) := by
  obtain ⟨h0, h1, h2, h3, h4, h5⟩ := hv
  obtain ⟨v, Z', hz', c1, c2⟩ := (s_paces (law_a D k 1)) L Z hz
  refine v_go rfl ?_
  refine v_sd rfl h1 ?_
  refine v_ca rfl ?_
  refine c1 D _ hC (fun D1 f1 hC1 => ?_)
  have hM1 := law_MC hM f1
  have e1 : D1 60 = D 60 := f1 60 (by omega)
  unfold law_a at c2
  rw [← e1] at c2
  refine v_go rfl ?_
  refine v_sd rfl h1 ?_
  refine v_ca rfl ?_
  refine c2 D1 _ hM1 (fun D2 f2 hM2 => ?_)
  have hC2 := law_CM hC1 f2
  refine v_bT rfl rfl ?_
  exact h Z' D2 hz' hC2 hM2
set_option maxRecDepth 100000 in
set_option maxHeartbeats 4000000 in
theorem law_19 {L k : Nat} {Q : m_K} {Z : ZS} {D : m_D} (hv : law_v L k) (hz : okZ Z) (hC : InvC Z D) (hM : InvM Z D) (h : law_N L k Q) : m_V L 8 Q t_L_law 2 (813, law_l k, [], D) := by
  obtain ⟨h0, h1, h2, h3, h4, h5⟩ := hv
  obtain ⟨v, Z', hz', c1, c2⟩ := (s_starts (law_a D k 1)) L Z hz
  refine v_go rfl ?_
  refine v_sd rfl h1 ?_
  refine v_ca rfl ?_
  refine c1 D _ hC (fun D1 f1 hC1 => ?_)
  have hM1 := law_MC hM f1
  have e1 : D1 60 = D 60 := f1 60 (by omega)
  unfold law_a at c2
  rw [← e1] at c2
  refine v_go rfl ?_
  refine v_sd rfl h1 ?_
  refine v_ca rfl ?_
  refine c2 D1 _ hM1 (fun D2 f2 hM2 => ?_)
  have hC2 := law_CM hC1 f2
  refine v_bT rfl rfl ?_
  exact h Z' D2 hz' hC2 hM2
set_option maxRecDepth 100000 in
set_option maxHeartbeats 4000000 in
theorem law_20 {L k : Nat} {Q : m_K} {Z : ZS} {D : m_D} (hv : law_v L k) (hz : okZ Z) (hC : InvC Z D) (hM : InvM Z D) (h : law_N L k Q) : m_V L 8 Q t_L_law 2 (836, law_l k, [], D) := by
  obtain ⟨h0, h1, h2, h3, h4, h5⟩ := hv
  obtain ⟨v, Z', hz', c1, c2⟩ := (s_odds (law_a D k 1) (law_a D k 2) (law_a D k 3)) L Z hz
  refine v_go rfl ?_
  refine v_sd rfl h1 ?_
  refine v_go rfl ?_
  refine v_sd rfl h2 ?_
  refine v_go rfl ?_
  refine v_sd rfl h3 ?_
  refine v_ca rfl ?_
  refine c1 D _ hC (fun D1 f1 hC1 => ?_)
  have hM1 := law_MC hM f1
  have e1 : D1 60 = D 60 := f1 60 (by omega)
  unfold law_a at c2
  rw [← e1] at c2
  refine v_go rfl ?_
  refine v_sd rfl h1 ?_
  refine v_go rfl ?_
  refine v_sd rfl h2 ?_
  refine v_go rfl ?_
  refine v_sd rfl h3 ?_
  refine v_ca rfl ?_
  refine c2 D1 _ hM1 (fun D2 f2 hM2 => ?_)
  have hC2 := law_CM hC1 f2
  refine v_go rfl ?_
  refine v_bT rfl (law_cmp v) ?_
  exact h Z' D2 hz' hC2 hM2
set_option maxRecDepth 100000 in
set_option maxHeartbeats 4000000 in
theorem law_21 {L k : Nat} {Q : m_K} {Z : ZS} {D : m_D} (hv : law_v L k) (hz : okZ Z) (hC : InvC Z D) (hM : InvM Z D) (h : law_N L k Q) : m_V L 8 Q t_L_law 2 (880, law_l k, [], D) := by
  obtain ⟨h0, h1, h2, h3, h4, h5⟩ := hv
  obtain ⟨v, Z', hz', c1, c2⟩ := (s_sheet (law_a D k 1) (law_a D k 2) (law_a D k 3)) L Z hz
  refine v_go rfl ?_
  refine v_sd rfl h1 ?_
  refine v_go rfl ?_
  refine v_sd rfl h2 ?_
  refine v_go rfl ?_
  refine v_sd rfl h3 ?_
  refine v_ca rfl ?_
  refine c1 D _ hC (fun D1 f1 hC1 => ?_)
  have hM1 := law_MC hM f1
  have e1 : D1 60 = D 60 := f1 60 (by omega)
  unfold law_a at c2
  rw [← e1] at c2
  refine v_go rfl ?_
  refine v_sd rfl h1 ?_
  refine v_go rfl ?_
  refine v_sd rfl h2 ?_
  refine v_go rfl ?_
  refine v_sd rfl h3 ?_
  refine v_ca rfl ?_
  refine c2 D1 _ hM1 (fun D2 f2 hM2 => ?_)
  have hC2 := law_CM hC1 f2
  refine v_bT rfl rfl ?_
  exact h Z' D2 hz' hC2 hM2
set_option maxRecDepth 100000 in
set_option maxHeartbeats 4000000 in
theorem law_22 {L k : Nat} {Q : m_K} {Z : ZS} {D : m_D} (hv : law_v L k) (hz : okZ Z) (hC : InvC Z D) (hM : InvM Z D) (h : law_N L k Q) : m_V L 8 Q t_L_law 2 (923, law_l k, [], D) := by
  obtain ⟨h0, h1, h2, h3, h4, h5⟩ := hv
  obtain ⟨v, Z', hz', c1, c2⟩ := (s_lose (law_a D k 1)) L Z hz
  refine v_go rfl ?_
  refine v_sd rfl h1 ?_
  refine v_ca rfl ?_
  refine c1 D _ hC (fun D1 f1 hC1 => ?_)
  have hM1 := law_MC hM f1
  have e1 : D1 60 = D 60 := f1 60 (by omega)
  unfold law_a at c2
  rw [← e1] at c2
  refine v_go rfl ?_
  refine v_sd rfl h1 ?_
  refine v_ca rfl ?_
  refine c2 D1 _ hM1 (fun D2 f2 hM2 => ?_)
  have hC2 := law_CM hC1 f2
  refine v_bT rfl rfl ?_
  exact h Z' D2 hz' hC2 hM2
set_option maxRecDepth 100000 in
set_option maxHeartbeats 4000000 in
theorem law_23 {L k : Nat} {Q : m_K} {Z : ZS} {D : m_D} (hv : law_v L k) (hz : okZ Z) (hC : InvC Z D) (hM : InvM Z D) (h : law_N L k Q) : m_V L 8 Q t_L_law 2 (946, law_l k, [], D) := by
  obtain ⟨h0, h1, h2, h3, h4, h5⟩ := hv
  obtain ⟨v, Z', hz', c1, c2⟩ := (s_put (law_a D k 1) (law_a D k 2) (law_a D k 3)) L Z hz
  refine v_go rfl ?_
  refine v_sd rfl h1 ?_
  refine v_go rfl ?_
  refine v_sd rfl h2 ?_
  refine v_go rfl ?_
  refine v_sd rfl h3 ?_
  refine v_ca rfl ?_
  refine c1 D _ hC (fun D1 f1 hC1 => ?_)
  have hM1 := law_MC hM f1
  have e1 : D1 60 = D 60 := f1 60 (by omega)
  unfold law_a at c2
  rw [← e1] at c2
  refine v_go rfl ?_
  refine v_sd rfl h1 ?_
  refine v_go rfl ?_
  refine v_sd rfl h2 ?_
  refine v_go rfl ?_
  refine v_sd rfl h3 ?_
  refine v_ca rfl ?_
  refine c2 D1 _ hM1 (fun D2 f2 hM2 => ?_)
  have hC2 := law_CM hC1 f2
  refine v_bT rfl rfl ?_
  exact h Z' D2 hz' hC2 hM2
set_option maxRecDepth 100000 in
set_option maxHeartbeats 4000000 in
theorem law_24 {L k : Nat} {Q : m_K} {Z : ZS} {D : m_D} (hv : law_v L k) (hz : okZ Z) (hC : InvC Z D) (hM : InvM Z D) (h : law_N L k Q) : m_V L 8 Q t_L_law 2 (989, law_l k, [], D) := by
  obtain ⟨h0, h1, h2, h3, h4, h5⟩ := hv
  obtain ⟨v, Z', hz', c1, c2⟩ := (s_cell (law_a D k 1) (law_a D k 2) (law_a D k 3)) L Z hz
  refine v_go rfl ?_
  refine v_sd rfl h1 ?_
  refine v_go rfl ?_
  refine v_sd rfl h2 ?_
  refine v_go rfl ?_
  refine v_sd rfl h3 ?_
  refine v_ca rfl ?_
  refine c1 D _ hC (fun D1 f1 hC1 => ?_)
  have hM1 := law_MC hM f1
  have e1 : D1 60 = D 60 := f1 60 (by omega)
  unfold law_a at c2
  rw [← e1] at c2
  refine v_go rfl ?_
  refine v_sd rfl h1 ?_
  refine v_go rfl ?_
  refine v_sd rfl h2 ?_
  refine v_go rfl ?_
  refine v_sd rfl h3 ?_
  refine v_ca rfl ?_
  refine c2 D1 _ hM1 (fun D2 f2 hM2 => ?_)
  have hC2 := law_CM hC1 f2
  refine v_go rfl ?_
  refine v_bT rfl (law_cmp v) ?_
  exact h Z' D2 hz' hC2 hM2
set_option maxRecDepth 100000 in
set_option maxHeartbeats 4000000 in
theorem law_25 {L k : Nat} {Q : m_K} {Z : ZS} {D : m_D} (hv : law_v L k) (hz : okZ Z) (hC : InvC Z D) (hM : InvM Z D) (h : law_N L k Q) : m_V L 8 Q t_L_law 2 (1033, law_l k, [], D) := by
  obtain ⟨h0, h1, h2, h3, h4, h5⟩ := hv
  obtain ⟨v, Z', hz', c1, c2⟩ := (s_copy (law_a D k 1) (law_a D k 2) (law_a D k 3) (law_a D k 4) (law_a D k 5)) L Z hz
  refine v_go rfl ?_
  refine v_sd rfl h1 ?_
  refine v_go rfl ?_
  refine v_sd rfl h2 ?_
  refine v_go rfl ?_
  refine v_sd rfl h3 ?_
  refine v_go rfl ?_
  refine v_sd rfl h4 ?_
  refine v_go rfl ?_
  refine v_sd rfl h5 ?_
  refine v_ca rfl ?_
  refine c1 D _ hC (fun D1 f1 hC1 => ?_)
  have hM1 := law_MC hM f1
  have e1 : D1 60 = D 60 := f1 60 (by omega)
  unfold law_a at c2
  rw [← e1] at c2
  refine v_go rfl ?_
  refine v_sd rfl h1 ?_
  refine v_go rfl ?_
  refine v_sd rfl h2 ?_
  refine v_go rfl ?_
  refine v_sd rfl h3 ?_
  refine v_go rfl ?_
  refine v_sd rfl h4 ?_
  refine v_go rfl ?_
  refine v_sd rfl h5 ?_
  refine v_ca rfl ?_
  refine c2 D1 _ hM1 (fun D2 f2 hM2 => ?_)
  have hC2 := law_CM hC1 f2
  refine v_bT rfl rfl ?_
  exact h Z' D2 hz' hC2 hM2
set_option maxRecDepth 100000 in
set_option maxHeartbeats 4000000 in
theorem law_26 {L k : Nat} {Q : m_K} {Z : ZS} {D : m_D} (hv : law_v L k) (hz : okZ Z) (hC : InvC Z D) (hM : InvM Z D) (h : law_N L k Q) : m_V L 8 Q t_L_law 2 (1096, law_l k, [], D) := by
  obtain ⟨h0, h1, h2, h3, h4, h5⟩ := hv
  obtain ⟨v, Z', hz', c1, c2⟩ := (s_tell (law_a D k 1)) L Z hz
  refine v_go rfl ?_
  refine v_sd rfl h1 ?_
  refine v_ca rfl ?_
  refine c1 D _ hC (fun D1 f1 hC1 => ?_)
  have hM1 := law_MC hM f1
  have e1 : D1 60 = D 60 := f1 60 (by omega)
  unfold law_a at c2
  rw [← e1] at c2
  refine v_go rfl ?_
  refine v_sd rfl h1 ?_
  refine v_ca rfl ?_
  refine c2 D1 _ hM1 (fun D2 f2 hM2 => ?_)
  have hC2 := law_CM hC1 f2
  refine v_bT rfl rfl ?_
  exact h Z' D2 hz' hC2 hM2
set_option maxRecDepth 100000 in
set_option maxHeartbeats 4000000 in
theorem law_27 {L k : Nat} {Q : m_K} {Z : ZS} {D : m_D} (hv : law_v L k) (hz : okZ Z) (hC : InvC Z D) (hM : InvM Z D) (h : law_N L k Q) : m_V L 8 Q t_L_law 2 (1119, law_l k, [], D) := by
  obtain ⟨h0, h1, h2, h3, h4, h5⟩ := hv
  obtain ⟨v, Z', hz', c1, c2⟩ := (s_bribe (law_a D k 1)) L Z hz
  refine v_go rfl ?_
  refine v_sd rfl h1 ?_
  refine v_ca rfl ?_
  refine c1 D _ hC (fun D1 f1 hC1 => ?_)
  have hM1 := law_MC hM f1
  have e1 : D1 60 = D 60 := f1 60 (by omega)
  unfold law_a at c2
  rw [← e1] at c2
  refine v_go rfl ?_
  refine v_sd rfl h1 ?_
  refine v_ca rfl ?_
  refine c2 D1 _ hM1 (fun D2 f2 hM2 => ?_)
  have hC2 := law_CM hC1 f2
  refine v_bT rfl rfl ?_
  exact h Z' D2 hz' hC2 hM2
set_option maxRecDepth 100000 in
set_option maxHeartbeats 4000000 in
theorem law_28 {L k : Nat} {Q : m_K} {Z : ZS} {D : m_D} (hv : law_v L k) (hz : okZ Z) (hC : InvC Z D) (hM : InvM Z D) (h : law_N L k Q) : m_V L 8 Q t_L_law 2 (1142, law_l k, [], D) := by
  obtain ⟨h0, h1, h2, h3, h4, h5⟩ := hv
  obtain ⟨v, Z', hz', c1, c2⟩ := (s_as (law_a D k 1) (law_a D k 2)) L Z hz
  refine v_go rfl ?_
  refine v_sd rfl h1 ?_
  refine v_go rfl ?_
  refine v_sd rfl h2 ?_
  refine v_ca rfl ?_
  refine c1 D _ hC (fun D1 f1 hC1 => ?_)
  have hM1 := law_MC hM f1
  have e1 : D1 60 = D 60 := f1 60 (by omega)
  unfold law_a at c2
  rw [← e1] at c2
  refine v_go rfl ?_
  refine v_sd rfl h1 ?_
  refine v_go rfl ?_
  refine v_sd rfl h2 ?_
  refine v_ca rfl ?_
  refine c2 D1 _ hM1 (fun D2 f2 hM2 => ?_)
  have hC2 := law_CM hC1 f2
  refine v_bT rfl rfl ?_
  exact h Z' D2 hz' hC2 hM2
set_option maxRecDepth 100000 in
set_option maxHeartbeats 4000000 in
theorem law_29 {L k : Nat} {Q : m_K} {Z : ZS} {D : m_D} (hv : law_v L k) (hz : okZ Z) (hC : InvC Z D) (hM : InvM Z D) (h : law_N L k Q) : m_V L 8 Q t_L_law 2 (1175, law_l k, [], D) := by
  obtain ⟨h0, h1, h2, h3, h4, h5⟩ := hv
  obtain ⟨v, Z', hz', c1, c2⟩ := (s_trace) L Z hz
  refine v_go rfl ?_
  refine v_ca rfl ?_
  refine c1 D _ hC (fun D1 f1 hC1 => ?_)
  have hM1 := law_MC hM f1
  have e1 : D1 60 = D 60 := f1 60 (by omega)
  refine v_go rfl ?_
  refine v_ca rfl ?_
  refine c2 D1 _ hM1 (fun D2 f2 hM2 => ?_)
  have hC2 := law_CM hC1 f2
  refine v_bT rfl rfl ?_
  exact h Z' D2 hz' hC2 hM2
set_option maxRecDepth 100000 in
set_option maxHeartbeats 4000000 in
theorem law_30 {L k : Nat} {Q : m_K} {Z : ZS} {D : m_D} (hv : law_v L k) (hz : okZ Z) (hC : InvC Z D) (hM : InvM Z D) (h : law_N L k Q) : m_V L 8 Q t_L_law 2 (1188, law_l k, [], D) := by
  obtain ⟨h0, h1, h2, h3, h4, h5⟩ := hv
  obtain ⟨v, Z', hz', c1, c2⟩ := (s_fault) L Z hz
  refine v_go rfl ?_
  refine v_ca rfl ?_
  refine c1 D _ hC (fun D1 f1 hC1 => ?_)
  have hM1 := law_MC hM f1
  have e1 : D1 60 = D 60 := f1 60 (by omega)
  refine v_go rfl ?_
  refine v_ca rfl ?_
  refine c2 D1 _ hM1 (fun D2 f2 hM2 => ?_)
  have hC2 := law_CM hC1 f2
  refine v_bT rfl rfl ?_
  exact h Z' D2 hz' hC2 hM2
set_option maxRecDepth 100000 in
set_option maxHeartbeats 4000000 in
theorem law_31 {L k : Nat} {Q : m_K} {Z : ZS} {D : m_D} (hv : law_v L k) (hz : okZ Z) (hC : InvC Z D) (hM : InvM Z D) (h : law_N L k Q) : m_V L 8 Q t_L_law 2 (1201, law_l k, [], D) := by
  obtain ⟨h0, h1, h2, h3, h4, h5⟩ := hv
  obtain ⟨v, Z', hz', c1, c2⟩ := (s_many (law_a D k 1)) L Z hz
  refine v_go rfl ?_
  refine v_sd rfl h1 ?_
  refine v_ca rfl ?_
  refine c1 D _ hC (fun D1 f1 hC1 => ?_)
  have hM1 := law_MC hM f1
  have e1 : D1 60 = D 60 := f1 60 (by omega)
  unfold law_a at c2
  rw [← e1] at c2
  refine v_go rfl ?_
  refine v_sd rfl h1 ?_
  refine v_ca rfl ?_
  refine c2 D1 _ hM1 (fun D2 f2 hM2 => ?_)
  have hC2 := law_CM hC1 f2
  refine v_bT rfl rfl ?_
  exact h Z' D2 hz' hC2 hM2
def law_cs : List (Int32 × Nat) := [(0, 176), (1, 229), (2, 262), (3, 295), (4, 328), (5, 361), (6, 394), (7, 427), (8, 450), (9, 513), (10, 536), (11, 559), (12, 592), (13, 625), (14, 668), (15, 711), (16, 744), (17, 767), (18, 790), (19, 813), (20, 836), (21, 880), (22, 923), (23, 946), (24, 989), (25, 1033), (26, 1096), (27, 1119), (28, 1142), (29, 1175), (30, 1188), (31, 1201)]
theorem law_all {L k : Nat} {Q : m_K} {Z : ZS} {D : m_D} (hv : law_v L k) (hz : okZ Z) (hC : InvC Z D) (hM : InvM Z D) (h : law_N L k Q) : ∀ q ∈ law_cs, m_V L 8 Q t_L_law 2 (q.2, law_l k, [], D) := by
  unfold law_cs
  exact List.forall_mem_cons.mpr ⟨law_0 hv hz hC hM h, List.forall_mem_cons.mpr ⟨law_1 hv hz hC hM h, List.forall_mem_cons.mpr ⟨law_2 hv hz hC hM h, List.forall_mem_cons.mpr ⟨law_3 hv hz hC hM h, List.forall_mem_cons.mpr ⟨law_4 hv hz hC hM h, List.forall_mem_cons.mpr ⟨law_5 hv hz hC hM h, List.forall_mem_cons.mpr ⟨law_6 hv hz hC hM h, List.forall_mem_cons.mpr ⟨law_7 hv hz hC hM h, List.forall_mem_cons.mpr ⟨law_8 hv hz hC hM h, List.forall_mem_cons.mpr ⟨law_9 hv hz hC hM h, List.forall_mem_cons.mpr ⟨law_10 hv hz hC hM h, List.forall_mem_cons.mpr ⟨law_11 hv hz hC hM h, List.forall_mem_cons.mpr ⟨law_12 hv hz hC hM h, List.forall_mem_cons.mpr ⟨law_13 hv hz hC hM h, List.forall_mem_cons.mpr ⟨law_14 hv hz hC hM h, List.forall_mem_cons.mpr ⟨law_15 hv hz hC hM h, List.forall_mem_cons.mpr ⟨law_16 hv hz hC hM h, List.forall_mem_cons.mpr ⟨law_17 hv hz hC hM h, List.forall_mem_cons.mpr ⟨law_18 hv hz hC hM h, List.forall_mem_cons.mpr ⟨law_19 hv hz hC hM h, List.forall_mem_cons.mpr ⟨law_20 hv hz hC hM h, List.forall_mem_cons.mpr ⟨law_21 hv hz hC hM h, List.forall_mem_cons.mpr ⟨law_22 hv hz hC hM h, List.forall_mem_cons.mpr ⟨law_23 hv hz hC hM h, List.forall_mem_cons.mpr ⟨law_24 hv hz hC hM h, List.forall_mem_cons.mpr ⟨law_25 hv hz hC hM h, List.forall_mem_cons.mpr ⟨law_26 hv hz hC hM h, List.forall_mem_cons.mpr ⟨law_27 hv hz hC hM h, List.forall_mem_cons.mpr ⟨law_28 hv hz hC hM h, List.forall_mem_cons.mpr ⟨law_29 hv hz hC hM h, List.forall_mem_cons.mpr ⟨law_30 hv hz hC hM h, List.forall_mem_cons.mpr ⟨law_31 hv hz hC hM h, fun _ h => absurd h List.not_mem_nil⟩⟩⟩⟩⟩⟩⟩⟩⟩⟩⟩⟩⟩⟩⟩⟩⟩⟩⟩⟩⟩⟩⟩⟩⟩⟩⟩⟩⟩⟩⟩⟩
set_option maxRecDepth 100000 in
set_option maxHeartbeats 4000000 in
theorem law_loop {L : Nat} (hL : L ≤ 3072) {Q : m_K} (hQ : ∀ D, Q (some (.int 1)) D) : ∀ (n k : Nat) (Z : ZS) (D : m_D), 6 * k ≤ L + 6 → L < 6 * k + n → okZ Z → InvC Z D → InvM Z D → m_V L 8 Q t_L_law 2 (18, law_l k, [], D) := by
  intro n
  induction n with
  | zero =>
    intro k Z D hk hn hz hC hM
    refine v_go rfl ?_
    refine v_sd rfl trivial ?_
    refine v_go rfl ?_
    refine v_bT rfl ((law_lt hL (by omega)).mpr (by omega)) ?_
    exact v_go rfl (v_rt rfl (Or.inr rfl) (hQ D))
  | succ n ih =>
    intro k Z D hk hn hz hC hM
    refine v_go rfl ?_
    refine v_sd rfl trivial ?_
    refine v_go rfl ?_
    by_cases hs : 6 * k + 6 ≤ L
    · have hv := law_v_of hL hs
      refine v_bF rfl (fun z => absurd ((law_lt hL (by omega)).mp z) (by omega)) ?_
      refine v_go rfl ?_
      refine v_sd rfl hv.1 ?_
      refine v_go rfl ?_
      have hN : law_N L k Q := by
        intro Z' D' hz' hC' hM'
        refine v_g1 rfl (v_g1 rfl ?_)
        have e : nI (6 * k) + 6 = nI (6 * (k + 1)) := nI_add (6 * k) 6
        have h := ih (k + 1) Z' D' (by omega) (by omega) hz' hC' hM'
        unfold law_l at h
        rw [← e] at h
        exact h
      refine v_sw (t := 1224) (cs := law_cs) (f := fun t => (t, law_l k, [], D)) rfl ?_
      exact m_cs_of (hN Z D hz hC hM) law_cs (law_all hv hz hC hM hN)
    · refine v_bT rfl ((law_lt hL (by omega)).mpr (by omega)) ?_
      exact v_go rfl (v_rt rfl (Or.inr rfl) (hQ D))
