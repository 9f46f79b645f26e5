theorem tl_start {xs : Nat → Int32} {L n0 kc ks : Nat} (hL : L ≤ 260) (hn0 : n0 < 8) {g fd oc : Nat} (hz : tb_sz g fd oc) : wL_law_76 (fun r => r = 1) L xs (nI (1 + n0)) kc ks ((1 + n0) * 18 + 1) (nI 0) (nI g) (nI fd) (nI oc) (nI 0) 0 0 0 0 0 0 0 0 0 (-1) 0 0 0 0 0 (tb_S (fun _ => 0)) ((fun _ => 0)) ((fun _ => 0)) ((fun _ => 0)) ((fun _ => 0)) ((fun _ => 0)) ((fun _ => 0)) ((fun _ => 0)) ((fun _ => 0)) ((fun _ => 0)) ((fun _ => 0)) ((fun _ => 0)) (tb_zr 26 (fun _ => 0)) ((fun _ => 0)) ((fun _ => 0)) ((fun _ => 0)) ((fun _ => 0)) ((fun _ => 0)) (nI g) (nI fd) (nI oc) (nI 0) 0 0 0 0 0 0 0 0 0 (-1) 0 0 0 0 0 (tb_S (fun _ => 0)) ((fun _ => 0)) ((fun _ => 0)) ((fun _ => 0)) ((fun _ => 0)) ((fun _ => 0)) ((fun _ => 0)) ((fun _ => 0)) ((fun _ => 0)) ((fun _ => 0)) ((fun _ => 0)) ((fun _ => 0)) (tb_zr 26 (fun _ => 0)) ((fun _ => 0)) ((fun _ => 0)) ((fun _ => 0)) ((fun _ => 0)) ((fun _ => 0)) :=
  tl_76 (post := fun r => r = 1) rfl hL hz (by omega) ((1 + n0) * 18) 0 0 (fun _ => 0) 0 0 0 0 0 0 0 0 0 (-1) 0 0 0 0 0 (fun _ => 0) (fun _ => 0) (fun _ => 0) (fun _ => 0) (fun _ => 0) (fun _ => 0) (fun _ => 0) (fun _ => 0) (fun _ => 0) (fun _ => 0) (fun _ => 0) (tb_zr 26 (fun _ => 0)) (fun _ => 0) (fun _ => 0) (fun _ => 0) (fun _ => 0) (fun _ => 0) 0 0 0 0 0 0 0 0 0 (-1) 0 0 0 0 0 (fun _ => 0) (fun _ => 0) (fun _ => 0) (fun _ => 0) (fun _ => 0) (fun _ => 0) (fun _ => 0) (fun _ => 0) (fun _ => 0) (fun _ => 0) (fun _ => 0) (by omega) (Nat.le_refl _) (fun j => by show 0 < 127; omega)
theorem i_vc (xs : Nat → Int32) (L : Nat) (hL : L ≤ 260) : wpL_law (fun r => r = 1) L xs := by
  unfold wpL_law
  refine tl_cell hL (k := 0) rfl (by omega) (fun _ => tl_m 8 (by omega) (by omega) rfl (fun n0 hn0 => nm_r (nI_add 1 n0) ?_))
  refine tl_cell hL (k := 1) rfl (by omega) (fun _ => tl_m 10 (by omega) (by omega) rfl (fun g0 _ => ?_))
  refine tl_cell hL (k := 2) rfl (by omega) (fun _ => tl_m 10 (by omega) (by omega) rfl (fun f0 _ => ?_))
  refine tl_cell hL (k := 3) rfl (by omega) (fun _ => tl_m 40 (by omega) (by omega) rfl (fun o0 _ => ?_))
  refine ⟨18, 898, by omega, by omega, ?_⟩
  refine tl_init (fun g fd oc hz g3 d3 o3 => ?_)
  refine ⟨by omega, by omega, 18, 898, by omega, by omega, ?_⟩
  refine tl_init2 hz g3 d3 o3 ?_
  exact ⟨(1 + n0) * 18 + 1, tl_start hL hn0 hz⟩
