/-! THE LAW: types and tells: written by wip/p31/tell.py -/
theorem mjD : (mjT 99).1 = 1 ∧ (mjT 99).2 = 6 ∧ (mjT 129).1 = 3 ∧ (mjT 129).2 = 18 ∧ (mjT 130).1 = 130 ∧ (mjT 130).2 = 780 ∧ (mjT 64).1 = 0 ∧ (mjT 64).2 = 0 ∧ (mjT 65).1 = 0 ∧ (mjT 65).2 = 0 := ⟨rfl, rfl, rfl, rfl, rfl, rfl, rfl, rfl, rfl, rfl⟩
section
variable {A d : Nat} {S : Sc} {N : Nat → Nat → Int32} {J : Nat → Nat → Int64} {B : Nat} {T : Tx} {ρ : Rw} {P : Pst9} {V : Sav} {Q : Res → Wd → Prop}
theorem U_app (hs : Scn A S) (h : RI B T ρ P V (pbM A N)) (hB : B < 990000) (hT : T.1 < 90) {x : Int32} {q : Nat} (hx : x = nI q) (hq : q ≤ 255) : Wp (d + 9) 99 [.ref (A + 1), .int x] (S, N, J) (fun rs w' => ∃ N', w' = (S, N', J) ∧ Frm A N N' ∧ RI B (tyc T q) ρ P V (pbM A N') ∧ rs = .inl (some (.long (lz ((T.1 + 1 : Nat) : Int))))) := by
  have hz : aApp T.1 x = (0, nI (T.1 + 1)) := by
    unfold aApp
    rw [hx, if_pos ⟨nI_pos (by omega), by rw [show (255 : Int32) = nI 255 from rfl, nI_ltI (by omega) (by omega)]; omega⟩, if_neg (fun q => ?_)]
    rw [show (90 : Int32) = nI 90 from rfl] at q
    have q : nI T.1 = nI 90 := q
    rw [nI_eq (by omega) (by omega)] at q
    omega
  refine Wp_mono (X_append hs h hB) ?_
  rintro rs_ w1 ⟨N1, rfl, hF, ⟨-, k1⟩, rfl⟩
  have k1 := k1 (by rw [hz])
  have e : typ9 T x = tyc T q := by
    unfold typ9 tyc
    rw [hx, ck (by omega)]
  rw [e] at k1
  refine ⟨N1, rfl, hF, k1, ?_⟩
  rw [hz, eL_0 rfl, lz_n (by omega)]
theorem le0 {m : Nat} (hm : m < 1000) : ¬ lg_cmp (lz ((m + 1 : Nat) : Int)) 0 ≤ 0 := fun z => by
  have z := lcmp_le.mp z
  rw [show (0 : Int64) = lz 0 from rfl, lz_le (by omega) (by omega) (by omega) (by omega)] at z
  omega
set_option maxHeartbeats 1000000 in
theorem ty_s (hs : Scn A S) (h : RI B T ρ P V (pbM A N)) (hB : B < 990000) {u v nc ns : Nat} (hT : T.1 < 90) (hu : 1 ≤ u) (hu2 : u ≤ 100) (hv : v < 100000) (hnc : nc + 1 ≤ 3) (hns : ns + 6 ≤ 18) (K : ∀ N', Frm A N N' → RI B (tyc T (48 + v / u % 10)) ρ P V (pbM A N') → EE (SJ (d + 10) 129 (Wp (d + 9)) Q) (25, [(0, .ref (A + 1)), (1, .int (nI v)), (3, .int 1), (4, .int (nI (u / 10)))], [], (S, N', J), nc + 1, ns + 6)) : EE (SJ (d + 10) 129 (Wp (d + 9)) Q) (25, [(0, .ref (A + 1)), (1, .int (nI v)), (3, .int 1), (4, .int (nI u))], [], (S, N, J), nc, ns) := by
  obtain ⟨g99, g99b, g129, g129b, -⟩ := mjD
  have hu0 : ¬ nI u = 0 := fun z => by
    have z : nI u = nI 0 := z
    rw [nI_eq (by omega) (by omega)] at z
    omega
  have e : (48 : Int32) + (nI v / nI u - nI v / nI u / 10 * 10) = nI (48 + v / u % 10) := by
    have hq : v / u ≤ v := Nat.div_le_self _ _
    rw [show (10 : Int32) = nI 10 from rfl, pk_div (by omega) (by omega) (by omega), pk_div (by omega) (by omega) (by omega), pk_mul, pk_sub (by omega), show v / u - v / u / 10 * 10 = v / u % 10 by omega, show (48 : Int32) = nI 48 from rfl, nI_add]
  refine EE.runN (stop := atPc [25]) 40 _ ?_
  refine ⟨fun z => absurd z (nI_nle (by omega) (by omega)), fun _ => ?_⟩
  refine ⟨fun z => absurd z (by decide), fun _ => ?_⟩
  refine ⟨hu0, by decide, ⟨Nat.le_of_ble_eq_true rfl, (by omega), (by omega)⟩, _, U_app hs h hB hT e (by omega), ?_⟩
  rintro rs_ w1 ⟨N1, rfl, hG1, h1, rfl⟩
  refine ⟨Or.inl rfl, ?_⟩
  refine ⟨fun z => absurd z (le0 (by omega)), fun _ => ?_⟩
  refine ⟨by decide, ?_⟩
  refine ee_at (nt := nzT 129) [(0, .ref (A + 1)), (1, .int (nI v)), (3, .int 1), (4, .int (nI (u / 10)))] (S, N1, J) rfl (by rw [show nI (u / 10) = nI u / 10 from (pk_div (d := 10) (by omega) (by omega) (by omega)).symm]; rfl) rfl ?_
  exact (show nc + (mjT 99).1 = nc + 1 by rw [g99]) ▸ (show ns + (mjT 99).2 = ns + 6 by rw [g99b]) ▸ K N1 hG1 h1
theorem ty_e {v nc ns : Nat} (hnc : nc ≤ 3) (hns : ns ≤ 18) (K : Q (.inl (some (.int 1))) (S, N, J)) : EE (SJ (d + 10) 129 (Wp (d + 9)) Q) (25, [(0, .ref (A + 1)), (1, .int (nI v)), (3, .int 1), (4, .int (nI 0))], [], (S, N, J), nc, ns) := by
  obtain ⟨g99, g99b, g129, g129b, -⟩ := mjD
  refine EE.runN (stop := noStop) 20 _ ?_
  refine ⟨fun _ => ?_, fun z => absurd (Int32.le_refl _) z⟩
  exact ⟨⟨by omega, by omega⟩, Or.inr rfl, K⟩
theorem Z_ty1 (hs : Scn A S) (h : RI B T ρ P V (pbM A N)) (hB : B < 990000) (hT : T.1 + 1 ≤ 90) {x : Int32} {v : Nat} (hx : x = nI v) (hv : v < 100000) : Wp (d + 10) 129 [.ref (A + 1), .int x, .int 1] (S, N, J) (fun rs w' => ∃ N', w' = (S, N', J) ∧ Frm A N N' ∧ RI B (ty1 T v) ρ P V (pbM A N') ∧ rs = .inl (some (.int 1))) := by
  subst hx
  refine ⟨rfl, ?_⟩
  refine EE.runN (stop := atPc [25]) 20 _ ?_
  refine ⟨fun _ => ?_, fun z => absurd z (by decide)⟩
  refine ⟨fun _ => ?_, fun z => absurd z (by decide)⟩
  refine ee_at (nt := nzT 129) [(0, .ref (A + 1)), (1, .int (nI v)), (3, .int 1), (4, .int (nI 1))] (S, N, J) rfl rfl rfl ?_
  refine ty_s (u := 1) hs h hB (by show T.1 < 90; omega) (by omega) (by omega) hv (by omega) (by omega) (fun N1 hF1 h1 => ?_)
  rw [Nat.div_one] at h1
  exact ty_e (by omega) (by omega) ⟨N1, rfl, hF1, h1, rfl⟩
theorem Z_ty2 (hs : Scn A S) (h : RI B T ρ P V (pbM A N)) (hB : B < 990000) (hT : T.1 + 2 ≤ 90) {x : Int32} {v : Nat} (hx : x = nI v) (hv : v < 100000) : Wp (d + 10) 129 [.ref (A + 1), .int x, .int 2] (S, N, J) (fun rs w' => ∃ N', w' = (S, N', J) ∧ Frm A N N' ∧ RI B (ty2 T v) ρ P V (pbM A N') ∧ rs = .inl (some (.int 1))) := by
  subst hx
  refine ⟨rfl, ?_⟩
  refine EE.runN (stop := atPc [25]) 20 _ ?_
  refine ⟨fun _ => ?_, fun z => absurd z (by decide)⟩
  refine ⟨fun z => absurd rfl z, fun _ => ?_⟩
  refine ee_at (nt := nzT 129) [(0, .ref (A + 1)), (1, .int (nI v)), (3, .int 1), (4, .int (nI 10))] (S, N, J) rfl rfl rfl ?_
  refine ty_s (u := 10) hs h hB (by show T.1 < 90; omega) (by omega) (by omega) hv (by omega) (by omega) (fun N1 hF1 h1 => ?_)
  refine ty_s (u := 1) hs h1 hB (by show T.1 + 1 < 90; omega) (by omega) (by omega) hv (by omega) (by omega) (fun N2 hF2 h2 => ?_)
  rw [Nat.div_one] at h2
  exact ty_e (by omega) (by omega) ⟨N2, rfl, (hF1.tr hF2), h2, rfl⟩
theorem Z_ty3 (hs : Scn A S) (h : RI B T ρ P V (pbM A N)) (hB : B < 990000) (hT : T.1 + 3 ≤ 90) {x : Int32} {v : Nat} (hx : x = nI v) (hv : v < 100000) : Wp (d + 10) 129 [.ref (A + 1), .int x, .int 3] (S, N, J) (fun rs w' => ∃ N', w' = (S, N', J) ∧ Frm A N N' ∧ RI B (ty3 T v) ρ P V (pbM A N') ∧ rs = .inl (some (.int 1))) := by
  subst hx
  refine ⟨rfl, ?_⟩
  refine EE.runN (stop := atPc [25]) 20 _ ?_
  refine ⟨fun z => absurd rfl z, fun _ => ?_⟩
  refine ee_at (nt := nzT 129) [(0, .ref (A + 1)), (1, .int (nI v)), (3, .int 1), (4, .int (nI 100))] (S, N, J) rfl rfl rfl ?_
  refine ty_s (u := 100) hs h hB (by show T.1 < 90; omega) (by omega) (by omega) hv (by omega) (by omega) (fun N1 hF1 h1 => ?_)
  refine ty_s (u := 10) hs h1 hB (by show T.1 + 1 < 90; omega) (by omega) (by omega) hv (by omega) (by omega) (fun N2 hF2 h2 => ?_)
  refine ty_s (u := 1) hs h2 hB (by show T.1 + 1 + 1 < 90; omega) (by omega) (by omega) hv (by omega) (by omega) (fun N3 hF3 h3 => ?_)
  rw [Nat.div_one] at h3
  exact ty_e (by omega) (by omega) ⟨N3, rfl, ((hF1.tr hF2).tr hF3), h3, rfl⟩
set_option maxRecDepth 100000 in
set_option maxHeartbeats 2000000 in
theorem t_0 (hs : Scn A S) (h : RI B T ρ P V (pbM A N)) (hB : B < 990000) {a b : Nat} (ha : a < 2147483648) (K : ∀ N' nc' ns', Frm A N N' → RI B (hdT a T) ρ P V (pbM A N') → nc' ≤ 20 → ns' ≤ 120 → EE (SJ (d + 11) 130 (Wp (d + 10)) Q) (87, [(0, .ref (A + 1)), (1, .int (nI a)), (2, .int (nI b)), (3, .int 1), (4, .int (nI 0))], [], (S, N', J), nc', ns')) : EE (SJ (d + 11) 130 (Wp (d + 10)) Q) (0, [(0, .ref (A + 1)), (1, .int (nI a)), (2, .int (nI b))], [], (S, N, J), 0, 0) := by
  obtain ⟨g99, g99b, g129, g129b, g130, g130b, g64, g64b, g65, g65b⟩ := mjD
  have h90 : T.1 ≤ 90 := h.1.2.1
  have ea : (3 : Int32) + (nI a - nI a / 10 * 10) = nI (3 + a % 10) := by
    rw [show (10 : Int32) = nI 10 from rfl, pk_div (by omega) (by omega) (by omega), pk_mul, pk_sub (by omega), show a - a / 10 * 10 = a % 10 by omega, show (3 : Int32) = nI 3 from rfl, nI_add]
  have eb : (1 : Int32) + (nI a / 10 - nI a / 10 / 99 * 99) = nI (1 + a / 10 % 99) := by
    rw [show (10 : Int32) = nI 10 from rfl, show (99 : Int32) = nI 99 from rfl, pk_div (by omega) (by omega) (by omega), pk_div (by omega) (by omega) (by omega), pk_mul, pk_sub (by omega), show a / 10 - a / 10 / 99 * 99 = a / 10 % 99 by omega, o_1, nI_add]
  have ec : nI a - nI a / 3 * 3 = nI (a % 3) := by
    rw [show (3 : Int32) = nI 3 from rfl, pk_div (by omega) (by omega) (by omega), pk_mul, pk_sub (by omega), show a - a / 3 * 3 = a % 3 by omega]
  have ed : (10 : Int32) + (nI a / 6 - nI a / 6 / 90 * 90) = nI (10 + a / 6 % 90) := by
    rw [show (6 : Int32) = nI 6 from rfl, show (90 : Int32) = nI 90 from rfl, pk_div (by omega) (by omega) (by omega), pk_div (by omega) (by omega) (by omega), pk_mul, pk_sub (by omega), show a / 6 - a / 6 / 90 * 90 = a / 6 % 90 by omega, show (10 : Int32) = nI 10 from rfl, nI_add]
  refine EE.runN (stop := atPc [87]) 120 _ ?_
  refine ⟨⟨Nat.le_of_ble_eq_true rfl, (by omega), (by omega)⟩, hs.k1, _, Y_clear hs h hB, ?_⟩
  rintro rs_ w1 ⟨N1, rfl, hG1, h1, rfl⟩
  refine ⟨Or.inl rfl, ?_⟩
  refine ⟨fun z => absurd z (nI_pos (by omega)), fun _ => ?_⟩
  refine ⟨⟨Nat.le_of_ble_eq_true rfl, (by omega), (by omega)⟩, _, U_app (q := 79) hs h1 hB (by show 0 < 90; omega) rfl (by decide), ?_⟩
  rintro rs_ w1 ⟨N2, rfl, hG2, h2, rfl⟩
  refine ⟨Or.inl rfl, ?_⟩
  refine ⟨fun z => absurd (cmp0.mpr rfl) z, fun _ => ?_⟩
  refine ⟨by decide, ⟨Nat.le_of_ble_eq_true rfl, (by omega), (by omega)⟩, _, Z_ty2 hs h2 hB (by show 0 + 1 + 2 ≤ 90; omega) ea (by omega), ?_⟩
  rintro rs_ w1 ⟨N3, rfl, hG3, h3, rfl⟩
  refine ⟨Or.inl rfl, ?_⟩
  refine ⟨fun z => absurd z (by decide), fun _ => ?_⟩
  refine ⟨by decide, by decide, ⟨Nat.le_of_ble_eq_true rfl, (by omega), (by omega)⟩, _, Z_ty2 hs h3 hB (by show 0 + 1 + 1 + 1 + 2 ≤ 90; omega) eb (by omega), ?_⟩
  rintro rs_ w1 ⟨N4, rfl, hG4, h4, rfl⟩
  refine ⟨Or.inl rfl, ?_⟩
  refine ⟨fun z => absurd z (by decide), fun _ => ?_⟩
  refine ⟨by decide, ?_⟩
  rcases Nat.eq_zero_or_pos (a % 3) with g | g
  · refine ⟨fun z => absurd (by rw [ec, g]; rfl) z, fun _ => ?_⟩
    refine ⟨⟨Nat.le_of_ble_eq_true rfl, (by omega), (by omega)⟩, _, Z_ty3 hs h4 hB (by show 0 + 1 + 1 + 1 + 1 + 1 + 3 ≤ 90; omega) (v := 10) rfl (by omega), ?_⟩
    rintro rs_ w1 ⟨N5, rfl, hG5, h5, rfl⟩
    refine ⟨Or.inl rfl, ?_⟩
    refine ⟨fun z => absurd z (by decide), fun _ => ?_⟩
    refine ee_at (nt := nzT 130) [(0, .ref (A + 1)), (1, .int (nI a)), (2, .int (nI b)), (3, .int 1), (4, .int (nI 0))] (S, N5, J) rfl rfl rfl ?_
    refine K N5 _ _ ((((hG1.tr hG2).tr hG3).tr hG4).tr hG5) ?_ (by omega) (by omega)
    unfold hdT
    rw [if_pos g]
    exact h5
  · refine ⟨fun _ => ?_, fun z => absurd ((nI_eq (by omega) (by omega)).mp (show nI (a % 3) = nI 0 from ec.symm.trans z)) (by omega)⟩
    refine ⟨by decide, by decide, ⟨Nat.le_of_ble_eq_true rfl, (by omega), (by omega)⟩, _, Z_ty3 hs h4 hB (by show 0 + 1 + 1 + 1 + 1 + 1 + 3 ≤ 90; omega) ed (by omega), ?_⟩
    rintro rs_ w1 ⟨N5, rfl, hG5, h5, rfl⟩
    refine ⟨Or.inl rfl, ?_⟩
    refine ⟨fun z => absurd z (by decide), fun _ => ?_⟩
    refine ee_at (nt := nzT 130) [(0, .ref (A + 1)), (1, .int (nI a)), (2, .int (nI b)), (3, .int 1), (4, .int (nI 0))] (S, N5, J) rfl rfl rfl ?_
    refine K N5 _ _ ((((hG1.tr hG2).tr hG3).tr hG4).tr hG5) ?_ (by omega) (by omega)
    unfold hdT
    rw [if_neg (by omega)]
    exact h5
/-- the i-th number drawn from x -/
def kap (a i : Nat) : Nat := ((nI a >>> (nI i &&& 31)) &&& 65535).toNatClampNeg
theorem kap_v (a i : Nat) : ((nI a >>> (nI i &&& 31)) &&& 65535) = nI (kap a i) ∧ kap a i ≤ 65535 := by
  obtain ⟨q, hq, e⟩ := and_le (nI a >>> (nI i &&& 31)) (m := 65535) (by omega)
  have e : ((nI a >>> (nI i &&& 31)) &&& 65535) = nI q := e
  have : kap a i = q := by
    unfold kap
    rw [e, ck (by omega)]
  rw [this]
  exact ⟨e, hq⟩
set_option maxHeartbeats 1000000 in
theorem t_1 {a b i nc ns : Nat} (hi : i < b % 14) (hb : b < 2147483648) (K : ∀ κ, κ = kap a i → κ ≤ 65535 → EE (SJ (d + 11) 130 (Wp (d + 10)) Q) (109, [(5, .int (nI κ)), (0, .ref (A + 1)), (1, .int (nI a)), (2, .int (nI b)), (3, .int 1), (4, .int (nI i))], [], (S, N, J), nc, ns)) : EE (SJ (d + 11) 130 (Wp (d + 10)) Q) (87, [(0, .ref (A + 1)), (1, .int (nI a)), (2, .int (nI b)), (3, .int 1), (4, .int (nI i))], [], (S, N, J), nc, ns) := by
  obtain ⟨e, hk⟩ := kap_v a i
  have eb : nI b - nI b / 14 * 14 = nI (b % 14) := by
    rw [show (14 : Int32) = nI 14 from rfl, pk_div (by omega) (by omega) (by omega), pk_mul, pk_sub (by omega), show b - b / 14 * 14 = b % 14 by omega]
  refine EE.runN (stop := atPc [109]) 40 _ ?_
  refine ⟨by decide, ?_⟩
  refine ⟨fun z => absurd z (by rw [eb]; exact nI_ge hi (by omega)), fun _ => ?_⟩
  refine ⟨fun z => absurd z (by decide), fun _ => ?_⟩
  refine ee_ls (ls := [(5, .int ((nI a >>> (nI i &&& 31)) &&& 65535)), (0, .ref (A + 1)), (1, .int (nI a)), (2, .int (nI b)), (3, .int 1), (4, .int (nI i))]) [(5, .int (nI (kap a i))), (0, .ref (A + 1)), (1, .int (nI a)), (2, .int (nI b)), (3, .int 1), (4, .int (nI i))] (by rw [e]) ?_
  exact K _ rfl hk
set_option maxRecDepth 100000 in
set_option maxHeartbeats 2000000 in
theorem t_20 (hs : Scn A S) (h : RI B T ρ P V (pbM A N)) (hB : B < 990000) {a b i κ nc ns : Nat} (hg : κ % 6 < 2) (hκ : κ ≤ 65535) (hT : T.1 + 4 ≤ 90) (hnc : nc + 8 ≤ 130) (hns : ns + 48 ≤ 780) (K : ∀ N' nc' ns', Frm A N N' → RI B (cmdT κ T) ρ P V (pbM A N') → nc' ≤ nc + 8 → ns' ≤ ns + 48 → EE (SJ (d + 11) 130 (Wp (d + 10)) Q) (87, [(0, .ref (A + 1)), (1, .int (nI a)), (2, .int (nI b)), (3, .int 1), (4, .int (nI (i + 1)))], [], (S, N', J), nc', ns')) : EE (SJ (d + 11) 130 (Wp (d + 10)) Q) (109, [(5, .int (nI κ)), (0, .ref (A + 1)), (1, .int (nI a)), (2, .int (nI b)), (3, .int 1), (4, .int (nI i))], [], (S, N, J), nc, ns) := by
  obtain ⟨g99, g99b, g129, g129b, g130, g130b, g64, g64b, g65, g65b⟩ := mjD
  have e6 : nI κ - nI κ / 6 * 6 = nI (κ % 6) := by
    rw [show (6 : Int32) = nI 6 from rfl, pk_div (by omega) (by omega) (by omega), pk_mul, pk_sub (by omega), show κ - κ / 6 * 6 = κ % 6 by omega]
  have x1 : (1 : Int32) + (nI κ / 6 - nI κ / 6 / 999 * 999) = nI (1 + (κ / 6 % 999)) := by
    rw [show (6 : Int32) = nI 6 from rfl, show (999 : Int32) = nI 999 from rfl, pk_div (by omega) (by omega) (by omega), pk_div (by omega) (by omega) (by omega), pk_mul, pk_sub (by omega), show κ / 6 - κ / 6 / 999 * 999 = κ / 6 % 999 by omega, show (1 : Int32) = nI 1 from rfl, nI_add]
  refine EE.runN (stop := atPc [87]) 120 _ ?_
  refine ⟨by decide, ?_⟩
  refine ⟨fun z => absurd z (by rw [e6, o_2, nI_leI (by omega) (by omega)]; omega), fun _ => ?_⟩
  refine ⟨⟨Nat.le_of_ble_eq_true rfl, (by omega), (by omega)⟩, _, U_app (q := 100) hs h hB (by omega) rfl (by decide), ?_⟩
  rintro rs_ w1 ⟨N1, rfl, hG1, h1, rfl⟩
  refine ⟨Or.inl rfl, ?_⟩
  refine ⟨fun z => absurd z (le0 (by omega)), fun _ => ?_⟩
  refine ⟨by decide, by decide, ⟨Nat.le_of_ble_eq_true rfl, (by omega), (by omega)⟩, _, Z_ty3 hs h1 hB (by show T.1 + 1 + 3 ≤ 90; omega) x1 (by omega), ?_⟩
  rintro rs_ w1 ⟨N2, rfl, hG2, h2, rfl⟩
  refine ⟨Or.inl rfl, ?_⟩
  refine ⟨fun z => absurd z (by decide), fun _ => ?_⟩
  refine ee_at (nt := nzT 130) [(0, .ref (A + 1)), (1, .int (nI a)), (2, .int (nI b)), (3, .int 1), (4, .int (nI (i + 1)))] (S, N2, J) rfl (by rw [show nI (i + 1) = nI i + 1 from (nI_1 i).symm]; rfl) rfl ?_
  refine K N2 _ _ (hG1.tr hG2) ?_ (by omega) (by omega)
  unfold cmdT
  rw [if_pos hg]
  exact h2
set_option maxRecDepth 100000 in
set_option maxHeartbeats 2000000 in
theorem t_21 (hs : Scn A S) (h : RI B T ρ P V (pbM A N)) (hB : B < 990000) {a b i κ nc ns : Nat} (hg : κ % 6 = 2) (hκ : κ ≤ 65535) (hT : T.1 + 4 ≤ 90) (hnc : nc + 8 ≤ 130) (hns : ns + 48 ≤ 780) (K : ∀ N' nc' ns', Frm A N N' → RI B (cmdT κ T) ρ P V (pbM A N') → nc' ≤ nc + 8 → ns' ≤ ns + 48 → EE (SJ (d + 11) 130 (Wp (d + 10)) Q) (87, [(0, .ref (A + 1)), (1, .int (nI a)), (2, .int (nI b)), (3, .int 1), (4, .int (nI (i + 1)))], [], (S, N', J), nc', ns')) : EE (SJ (d + 11) 130 (Wp (d + 10)) Q) (109, [(5, .int (nI κ)), (0, .ref (A + 1)), (1, .int (nI a)), (2, .int (nI b)), (3, .int 1), (4, .int (nI i))], [], (S, N, J), nc, ns) := by
  obtain ⟨g99, g99b, g129, g129b, g130, g130b, g64, g64b, g65, g65b⟩ := mjD
  have e6 : nI κ - nI κ / 6 * 6 = nI (κ % 6) := by
    rw [show (6 : Int32) = nI 6 from rfl, pk_div (by omega) (by omega) (by omega), pk_mul, pk_sub (by omega), show κ - κ / 6 * 6 = κ % 6 by omega]
  have x1 : (1 : Int32) + (nI κ / 6 - nI κ / 6 / 36 * 36) = nI (1 + (κ / 6 % 36)) := by
    rw [show (6 : Int32) = nI 6 from rfl, show (36 : Int32) = nI 36 from rfl, pk_div (by omega) (by omega) (by omega), pk_div (by omega) (by omega) (by omega), pk_mul, pk_sub (by omega), show κ / 6 - κ / 6 / 36 * 36 = κ / 6 % 36 by omega, show (1 : Int32) = nI 1 from rfl, nI_add]
  have x2 : (nI κ / 216 - nI κ / 216 / 3 * 3) = nI ((κ / 216 % 3)) := by
    rw [show (216 : Int32) = nI 216 from rfl, show (3 : Int32) = nI 3 from rfl, pk_div (by omega) (by omega) (by omega), pk_div (by omega) (by omega) (by omega), pk_mul, pk_sub (by omega), show κ / 216 - κ / 216 / 3 * 3 = κ / 216 % 3 by omega]
  refine EE.runN (stop := atPc [87]) 120 _ ?_
  refine ⟨by decide, ?_⟩
  refine ⟨fun _ => ?_, fun z => absurd (by rw [e6, o_2, nI_leI (by omega) (by omega)]; omega) z⟩
  refine ⟨by decide, ?_⟩
  refine ⟨fun z => absurd (by rw [e6, hg]; rfl) z, fun _ => ?_⟩
  refine ⟨⟨Nat.le_of_ble_eq_true rfl, (by omega), (by omega)⟩, _, U_app (q := 99) hs h hB (by omega) rfl (by decide), ?_⟩
  rintro rs_ w1 ⟨N1, rfl, hG1, h1, rfl⟩
  refine ⟨Or.inl rfl, ?_⟩
  refine ⟨fun z => absurd z (le0 (by omega)), fun _ => ?_⟩
  refine ⟨by decide, by decide, ⟨Nat.le_of_ble_eq_true rfl, (by omega), (by omega)⟩, _, Z_ty2 hs h1 hB (by show T.1 + 1 + 2 ≤ 90; omega) x1 (by omega), ?_⟩
  rintro rs_ w1 ⟨N2, rfl, hG2, h2, rfl⟩
  refine ⟨Or.inl rfl, ?_⟩
  refine ⟨fun z => absurd z (by decide), fun _ => ?_⟩
  refine ⟨by decide, by decide, ⟨Nat.le_of_ble_eq_true rfl, (by omega), (by omega)⟩, _, Z_ty1 hs h2 hB (by show T.1 + 1 + 1 + 1 + 1 ≤ 90; omega) x2 (by omega), ?_⟩
  rintro rs_ w1 ⟨N3, rfl, hG3, h3, rfl⟩
  refine ⟨Or.inl rfl, ?_⟩
  refine ⟨fun z => absurd z (by decide), fun _ => ?_⟩
  refine ee_at (nt := nzT 130) [(0, .ref (A + 1)), (1, .int (nI a)), (2, .int (nI b)), (3, .int 1), (4, .int (nI (i + 1)))] (S, N3, J) rfl (by rw [show nI (i + 1) = nI i + 1 from (nI_1 i).symm]; rfl) rfl ?_
  refine K N3 _ _ ((hG1.tr hG2).tr hG3) ?_ (by omega) (by omega)
  unfold cmdT
  rw [if_neg (by omega), if_pos hg]
  exact h3
set_option maxRecDepth 100000 in
set_option maxHeartbeats 2000000 in
theorem t_22 (hs : Scn A S) (h : RI B T ρ P V (pbM A N)) (hB : B < 990000) {a b i κ nc ns : Nat} (hg : κ % 6 = 3) (hκ : κ ≤ 65535) (hT : T.1 + 4 ≤ 90) (hnc : nc + 8 ≤ 130) (hns : ns + 48 ≤ 780) (K : ∀ N' nc' ns', Frm A N N' → RI B (cmdT κ T) ρ P V (pbM A N') → nc' ≤ nc + 8 → ns' ≤ ns + 48 → EE (SJ (d + 11) 130 (Wp (d + 10)) Q) (87, [(0, .ref (A + 1)), (1, .int (nI a)), (2, .int (nI b)), (3, .int 1), (4, .int (nI (i + 1)))], [], (S, N', J), nc', ns')) : EE (SJ (d + 11) 130 (Wp (d + 10)) Q) (109, [(5, .int (nI κ)), (0, .ref (A + 1)), (1, .int (nI a)), (2, .int (nI b)), (3, .int 1), (4, .int (nI i))], [], (S, N, J), nc, ns) := by
  obtain ⟨g99, g99b, g129, g129b, g130, g130b, g64, g64b, g65, g65b⟩ := mjD
  have e6 : nI κ - nI κ / 6 * 6 = nI (κ % 6) := by
    rw [show (6 : Int32) = nI 6 from rfl, pk_div (by omega) (by omega) (by omega), pk_mul, pk_sub (by omega), show κ - κ / 6 * 6 = κ % 6 by omega]

  refine EE.runN (stop := atPc [87]) 120 _ ?_
  refine ⟨by decide, ?_⟩
  refine ⟨fun _ => ?_, fun z => absurd (by rw [e6, o_2, nI_leI (by omega) (by omega)]; omega) z⟩
  refine ⟨by decide, ?_⟩
  refine ⟨fun _ => ?_, fun z => absurd ((nI_eq (by omega) (by omega)).mp (show nI (κ % 6) = nI 2 from e6.symm.trans z)) (by omega)⟩
  refine ⟨by decide, ?_⟩
  refine ⟨fun z => absurd (by rw [e6, hg]; rfl) z, fun _ => ?_⟩
  refine ⟨⟨Nat.le_of_ble_eq_true rfl, (by omega), (by omega)⟩, _, U_app (q := 115) hs h hB (by omega) rfl (by decide), ?_⟩
  rintro rs_ w1 ⟨N1, rfl, hG1, h1, rfl⟩
  refine ⟨Or.inl rfl, ?_⟩
  refine ⟨fun z => absurd z (le0 (by omega)), fun _ => ?_⟩
  refine ee_at (nt := nzT 130) [(0, .ref (A + 1)), (1, .int (nI a)), (2, .int (nI b)), (3, .int 1), (4, .int (nI (i + 1)))] (S, N1, J) rfl (by rw [show nI (i + 1) = nI i + 1 from (nI_1 i).symm]; rfl) rfl ?_
  refine K N1 _ _ hG1 ?_ (by omega) (by omega)
  unfold cmdT
  rw [if_neg (by omega), if_neg (by omega), if_pos hg]
  exact h1
set_option maxRecDepth 100000 in
set_option maxHeartbeats 2000000 in
theorem t_23 (hs : Scn A S) (h : RI B T ρ P V (pbM A N)) (hB : B < 990000) {a b i κ nc ns : Nat} (hg : κ % 6 = 4) (hκ : κ ≤ 65535) (hT : T.1 + 4 ≤ 90) (hnc : nc + 8 ≤ 130) (hns : ns + 48 ≤ 780) (K : ∀ N' nc' ns', Frm A N N' → RI B (cmdT κ T) ρ P V (pbM A N') → nc' ≤ nc + 8 → ns' ≤ ns + 48 → EE (SJ (d + 11) 130 (Wp (d + 10)) Q) (87, [(0, .ref (A + 1)), (1, .int (nI a)), (2, .int (nI b)), (3, .int 1), (4, .int (nI (i + 1)))], [], (S, N', J), nc', ns')) : EE (SJ (d + 11) 130 (Wp (d + 10)) Q) (109, [(5, .int (nI κ)), (0, .ref (A + 1)), (1, .int (nI a)), (2, .int (nI b)), (3, .int 1), (4, .int (nI i))], [], (S, N, J), nc, ns) := by
  obtain ⟨g99, g99b, g129, g129b, g130, g130b, g64, g64b, g65, g65b⟩ := mjD
  have e6 : nI κ - nI κ / 6 * 6 = nI (κ % 6) := by
    rw [show (6 : Int32) = nI 6 from rfl, pk_div (by omega) (by omega) (by omega), pk_mul, pk_sub (by omega), show κ - κ / 6 * 6 = κ % 6 by omega]
  have x1 : (nI κ / 6 - nI κ / 6 / 3 * 3) = nI ((κ / 6 % 3)) := by
    rw [show (6 : Int32) = nI 6 from rfl, show (3 : Int32) = nI 3 from rfl, pk_div (by omega) (by omega) (by omega), pk_div (by omega) (by omega) (by omega), pk_mul, pk_sub (by omega), show κ / 6 - κ / 6 / 3 * 3 = κ / 6 % 3 by omega]
  have x2 : (nI κ / 18 - nI κ / 18 / 3 * 3) = nI ((κ / 18 % 3)) := by
    rw [show (18 : Int32) = nI 18 from rfl, show (3 : Int32) = nI 3 from rfl, pk_div (by omega) (by omega) (by omega), pk_div (by omega) (by omega) (by omega), pk_mul, pk_sub (by omega), show κ / 18 - κ / 18 / 3 * 3 = κ / 18 % 3 by omega]
  refine EE.runN (stop := atPc [87]) 120 _ ?_
  refine ⟨by decide, ?_⟩
  refine ⟨fun _ => ?_, fun z => absurd (by rw [e6, o_2, nI_leI (by omega) (by omega)]; omega) z⟩
  refine ⟨by decide, ?_⟩
  refine ⟨fun _ => ?_, fun z => absurd ((nI_eq (by omega) (by omega)).mp (show nI (κ % 6) = nI 2 from e6.symm.trans z)) (by omega)⟩
  refine ⟨by decide, ?_⟩
  refine ⟨fun _ => ?_, fun z => absurd ((nI_eq (by omega) (by omega)).mp (show nI (κ % 6) = nI 3 from e6.symm.trans z)) (by omega)⟩
  refine ⟨by decide, ?_⟩
  refine ⟨fun z => absurd (by rw [e6, hg]; rfl) z, fun _ => ?_⟩
  refine ⟨⟨Nat.le_of_ble_eq_true rfl, (by omega), (by omega)⟩, _, U_app (q := 109) hs h hB (by omega) rfl (by decide), ?_⟩
  rintro rs_ w1 ⟨N1, rfl, hG1, h1, rfl⟩
  refine ⟨Or.inl rfl, ?_⟩
  refine ⟨fun z => absurd z (le0 (by omega)), fun _ => ?_⟩
  refine ⟨by decide, by decide, ⟨Nat.le_of_ble_eq_true rfl, (by omega), (by omega)⟩, _, Z_ty1 hs h1 hB (by show T.1 + 1 + 1 ≤ 90; omega) x1 (by omega), ?_⟩
  rintro rs_ w1 ⟨N2, rfl, hG2, h2, rfl⟩
  refine ⟨Or.inl rfl, ?_⟩
  refine ⟨fun z => absurd z (by decide), fun _ => ?_⟩
  refine ⟨by decide, by decide, ⟨Nat.le_of_ble_eq_true rfl, (by omega), (by omega)⟩, _, Z_ty1 hs h2 hB (by show T.1 + 1 + 1 + 1 ≤ 90; omega) x2 (by omega), ?_⟩
  rintro rs_ w1 ⟨N3, rfl, hG3, h3, rfl⟩
  refine ⟨Or.inl rfl, ?_⟩
  refine ⟨fun z => absurd z (by decide), fun _ => ?_⟩
  refine ee_at (nt := nzT 130) [(0, .ref (A + 1)), (1, .int (nI a)), (2, .int (nI b)), (3, .int 1), (4, .int (nI (i + 1)))] (S, N3, J) rfl (by rw [show nI (i + 1) = nI i + 1 from (nI_1 i).symm]; rfl) rfl ?_
  refine K N3 _ _ ((hG1.tr hG2).tr hG3) ?_ (by omega) (by omega)
  unfold cmdT
  rw [if_neg (by omega), if_neg (by omega), if_neg (by omega), if_pos hg]
  exact h3
set_option maxRecDepth 100000 in
set_option maxHeartbeats 2000000 in
theorem t_24 (hs : Scn A S) (h : RI B T ρ P V (pbM A N)) (hB : B < 990000) {a b i κ nc ns : Nat} (hg : κ % 6 = 5) (hκ : κ ≤ 65535) (hT : T.1 + 4 ≤ 90) (hnc : nc + 8 ≤ 130) (hns : ns + 48 ≤ 780) (K : ∀ N' nc' ns', Frm A N N' → RI B (cmdT κ T) ρ P V (pbM A N') → nc' ≤ nc + 8 → ns' ≤ ns + 48 → EE (SJ (d + 11) 130 (Wp (d + 10)) Q) (87, [(0, .ref (A + 1)), (1, .int (nI a)), (2, .int (nI b)), (3, .int 1), (4, .int (nI (i + 1)))], [], (S, N', J), nc', ns')) : EE (SJ (d + 11) 130 (Wp (d + 10)) Q) (109, [(5, .int (nI κ)), (0, .ref (A + 1)), (1, .int (nI a)), (2, .int (nI b)), (3, .int 1), (4, .int (nI i))], [], (S, N, J), nc, ns) := by
  obtain ⟨g99, g99b, g129, g129b, g130, g130b, g64, g64b, g65, g65b⟩ := mjD
  have e6 : nI κ - nI κ / 6 * 6 = nI (κ % 6) := by
    rw [show (6 : Int32) = nI 6 from rfl, pk_div (by omega) (by omega) (by omega), pk_mul, pk_sub (by omega), show κ - κ / 6 * 6 = κ % 6 by omega]
  have x1 : (nI κ / 6 - nI κ / 6 / 3 * 3) = nI ((κ / 6 % 3)) := by
    rw [show (6 : Int32) = nI 6 from rfl, show (3 : Int32) = nI 3 from rfl, pk_div (by omega) (by omega) (by omega), pk_div (by omega) (by omega) (by omega), pk_mul, pk_sub (by omega), show κ / 6 - κ / 6 / 3 * 3 = κ / 6 % 3 by omega]
  refine EE.runN (stop := atPc [87]) 120 _ ?_
  refine ⟨by decide, ?_⟩
  refine ⟨fun _ => ?_, fun z => absurd (by rw [e6, o_2, nI_leI (by omega) (by omega)]; omega) z⟩
  refine ⟨by decide, ?_⟩
  refine ⟨fun _ => ?_, fun z => absurd ((nI_eq (by omega) (by omega)).mp (show nI (κ % 6) = nI 2 from e6.symm.trans z)) (by omega)⟩
  refine ⟨by decide, ?_⟩
  refine ⟨fun _ => ?_, fun z => absurd ((nI_eq (by omega) (by omega)).mp (show nI (κ % 6) = nI 3 from e6.symm.trans z)) (by omega)⟩
  refine ⟨by decide, ?_⟩
  refine ⟨fun _ => ?_, fun z => absurd ((nI_eq (by omega) (by omega)).mp (show nI (κ % 6) = nI 4 from e6.symm.trans z)) (by omega)⟩
  refine ⟨⟨Nat.le_of_ble_eq_true rfl, (by omega), (by omega)⟩, _, U_app (q := 114) hs h hB (by omega) rfl (by decide), ?_⟩
  rintro rs_ w1 ⟨N1, rfl, hG1, h1, rfl⟩
  refine ⟨Or.inl rfl, ?_⟩
  refine ⟨fun z => absurd z (le0 (by omega)), fun _ => ?_⟩
  refine ⟨by decide, by decide, ⟨Nat.le_of_ble_eq_true rfl, (by omega), (by omega)⟩, _, Z_ty2 hs h1 hB (by show T.1 + 1 + 2 ≤ 90; omega) x1 (by omega), ?_⟩
  rintro rs_ w1 ⟨N2, rfl, hG2, h2, rfl⟩
  refine ⟨Or.inl rfl, ?_⟩
  refine ⟨fun z => absurd z (by decide), fun _ => ?_⟩
  refine ee_at (nt := nzT 130) [(0, .ref (A + 1)), (1, .int (nI a)), (2, .int (nI b)), (3, .int 1), (4, .int (nI (i + 1)))] (S, N2, J) rfl (by rw [show nI (i + 1) = nI i + 1 from (nI_1 i).symm]; rfl) rfl ?_
  refine K N2 _ _ (hG1.tr hG2) ?_ (by omega) (by omega)
  unfold cmdT
  rw [if_neg (by omega), if_neg (by omega), if_neg (by omega), if_neg (by omega)]
  exact h2
def tls (a : Nat) : Nat → Nat → Tx → Tx
  | 0, _, T => T
  | f + 1, i, T => tls a f (i + 1) (cmdT (kap a i) T)
def tellT (a b : Nat) (T : Tx) : Tx := tls a (b % 14) 0 (hdT a T)
theorem tls_ok (a : Nat) {sl : Nat} (h3 : 3 ≤ sl) (h12 : sl ≤ 12) : ∀ (f i j : Nat) (T : Tx), Rn sl j T → Rn sl (j + f) (tls a f i T) ∧ (tls a f i T).1 ≤ T.1 + 4 * f
  | 0, _, _, _, h => ⟨h, Nat.le_refl _⟩
  | f + 1, i, j, T, h => by
    obtain ⟨x1, x2⟩ := tls_ok a h3 h12 f (i + 1) (j + 1) (cmdT (kap a i) T) (h.step h3 h12)
    have := (cmd_ag (kap a i) T).2.1
    rw [tls]
    exact ⟨by rw [show j + (f + 1) = j + 1 + f by omega]; exact x1, by omega⟩
theorem tell_ok (a b : Nat) (T : Tx) : (mEnd (tellT a b T).1 (tellT a b T).2).1 = true ∧ (tellT a b T).1 ≤ 60 := by
  obtain ⟨x1, x2⟩ := tls_ok a (sl := 3 + a % 10) (by omega) (by omega) (b % 14) 0 0 (hdT a T) (hd_rn a T)
  have e : (hdT a T).1 = 8 := rfl
  exact ⟨x1.good (by omega), by unfold tellT; omega⟩
theorem L_tells (hs : Scn A S) (hB : B < 990000) (N0 : Nat → Nat → Int32) {a b : Nat} (hb : b < 2147483648) : ∀ (f i : Nat) (T : Tx) (N : Nat → Nat → Int32) (nc ns : Nat), i + f = b % 14 → Frm A N0 N → RI B T ρ P V (pbM A N) → T.1 ≤ 8 + 4 * i → nc ≤ 20 + 8 * i → ns ≤ 120 + 48 * i → (∀ N' nc' ns', Frm A N0 N' → RI B (tls a f i T) ρ P V (pbM A N') → nc' ≤ 130 → ns' ≤ 780 → EE (SJ (d + 11) 130 (Wp (d + 10)) Q) (87, [(0, .ref (A + 1)), (1, .int (nI a)), (2, .int (nI b)), (3, .int 1), (4, .int (nI (b % 14)))], [], (S, N', J), nc', ns')) → EE (SJ (d + 11) 130 (Wp (d + 10)) Q) (87, [(0, .ref (A + 1)), (1, .int (nI a)), (2, .int (nI b)), (3, .int 1), (4, .int (nI i))], [], (S, N, J), nc, ns)
  | 0, i, T, N, nc, ns, hi, hF, h, hT, hc, hn, K => by
    have hi : b % 14 = i := by omega
    rw [hi] at K
    exact K N nc ns hF h (by omega) (by omega)
  | f + 1, i, T, N, nc, ns, hi, hF, h, hT, hc, hn, K => by
    refine t_1 (by omega) hb (fun κ hκ hκ2 => ?_)
    have key : ∀ N' nc' ns', Frm A N N' → RI B (cmdT κ T) ρ P V (pbM A N') → nc' ≤ nc + 8 → ns' ≤ ns + 48 → EE (SJ (d + 11) 130 (Wp (d + 10)) Q) (87, [(0, .ref (A + 1)), (1, .int (nI a)), (2, .int (nI b)), (3, .int 1), (4, .int (nI (i + 1)))], [], (S, N', J), nc', ns') := fun N' nc' ns' hF' h' hc' hn' => by
      have := (cmd_ag κ T).2.1
      refine L_tells hs hB N0 hb f (i + 1) (cmdT κ T) N' nc' ns' (by omega) (hF.tr hF') h' (by omega) (by omega) (by omega) ?_
      rw [hκ]
      exact K
    rcases (show κ % 6 < 2 ∨ κ % 6 = 2 ∨ κ % 6 = 3 ∨ κ % 6 = 4 ∨ κ % 6 = 5 by omega) with g | g | g | g | g
    · exact t_20 hs h hB g hκ2 (by omega) (by omega) (by omega) key
    · exact t_21 hs h hB g hκ2 (by omega) (by omega) (by omega) key
    · exact t_22 hs h hB g hκ2 (by omega) (by omega) (by omega) key
    · exact t_23 hs h hB g hκ2 (by omega) (by omega) (by omega) key
    · exact t_24 hs h hB g hκ2 (by omega) (by omega) (by omega) key
set_option maxHeartbeats 1000000 in
theorem Z_tells (hs : Scn A S) (h : RI B T ρ P V (pbM A N)) (hB : B < 990000) {a b : Nat} (ha : a < 2147483648) (hb : b < 2147483648) : Wp (d + 11) 130 [.ref (A + 1), .int (nI a), .int (nI b)] (S, N, J) (fun rs w' => ∃ N', w' = (S, N', J) ∧ Frm A N N' ∧ RI B (tellT a b T) ρ P V (pbM A N') ∧ rs = .inl (some (.int 1))) := by
  obtain ⟨g99, g99b, g129, g129b, g130, g130b, g64, g64b, g65, g65b⟩ := mjD
  have eb : nI b - nI b / 14 * 14 = nI (b % 14) := by
    rw [show (14 : Int32) = nI 14 from rfl, pk_div (by omega) (by omega) (by omega), pk_mul, pk_sub (by omega), show b - b / 14 * 14 = b % 14 by omega]
  refine ⟨rfl, ?_⟩
  refine t_0 hs h hB ha (fun N1 nc1 ns1 hF1 h1 hc1 hn1 => ?_)
  refine L_tells hs hB N hb (b % 14) 0 (hdT a T) N1 nc1 ns1 (by omega) hF1 h1 (by show 8 ≤ 8 + 4 * 0; omega) (by omega) (by omega) (fun N2 nc2 ns2 hF2 h2 hc2 hn2 => ?_)
  refine EE.runN (stop := noStop) 40 _ ?_
  refine ⟨by decide, ?_⟩
  refine ⟨fun _ => ?_, fun z => absurd (by rw [eb]; exact Int32.le_refl _) z⟩
  refine ⟨fun z => absurd z (by decide), fun _ => ?_⟩
  refine ⟨⟨Nat.le_of_ble_eq_true rfl, (by omega), (by omega)⟩, hs.k1, _, Y_error hs h2 hB, ?_⟩
  rintro rs_ w1 ⟨N3, rfl, hF3, h3, hr⟩
  have hr : rs_ = .inl (some (.int (mTv (mEnd (tellT a b T).1 (tellT a b T).2)))) := hr
  rw [show mTv (mEnd (tellT a b T).1 (tellT a b T).2) = -99999 from if_pos (tell_ok a b T).1] at hr
  subst hr
  refine ⟨Or.inl rfl, ?_⟩
  refine ⟨fun z => absurd rfl z, fun _ => ?_⟩
  exact ⟨⟨by omega, by omega⟩, Or.inr rfl, N3, rfl, hF2.tr hF3, h3, rfl⟩
end
