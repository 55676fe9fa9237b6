/-! THE CLASS: its object, shelves, history: written by wip/whole/pure3.py -/
theorem V_hasSlot {d : Nat} {S : Sc} {M : Nat → Nat → Int32} {J : Nat → Nat → Int64} {b : Nat} : ∀ (hS : OdS S b) {o : Nat} (ho : o = b + 1) {x : Int32}, Wp (d + 1) 3 [.ref o, .int x] (S, M, J) (fun rs w' => rs = .inl (some (.int (bI (¬ x < 0 ∧ ¬ (vO M b) 0 ≤ x)))) ∧ w' = (S, M, J)) := by
  have h := @T_hasSlot d S M J b (vO M b)
  simp only [sO_vO] at h
  exact h
theorem V_numberIn {d : Nat} {S : Sc} {M : Nat → Nat → Int32} {J : Nat → Nat → Int64} {b : Nat} : ∀ (hS : OdS S b) {o : Nat} (ho : o = b + 1) {s i : Nat} (hs : s < 12) (hi : i < 3), Wp (d + 1) 5 [.ref o, .int (nI s), .int (nI i)] (S, M, J) (fun rs w' => rs = .inl (some (.int ((vO M b) (42 + 2 * (3 * s + i))))) ∧ w' = (S, M, J)) := by
  have h := @T_numberIn d S M J b (vO M b)
  simp only [sO_vO] at h
  exact h
theorem V_wearOf {d : Nat} {S : Sc} {M : Nat → Nat → Int32} {J : Nat → Nat → Int64} {b : Nat} : ∀ (hS : OdS S b) {o : Nat} (ho : o = b + 1) {s i : Nat} (hs : s < 12) (hi : i < 3), Wp (d + 1) 6 [.ref o, .int (nI s), .int (nI i)] (S, M, J) (fun rs w' => rs = .inl (some (.int ((vO M b) (43 + 2 * (3 * s + i))))) ∧ w' = (S, M, J)) := by
  have h := @T_wearOf d S M J b (vO M b)
  simp only [sO_vO] at h
  exact h
theorem V_isStuck {d : Nat} {S : Sc} {M : Nat → Nat → Int32} {J : Nat → Nat → Int64} {b : Nat} : ∀ (hS : OdS S b) {o : Nat} (ho : o = b + 1) {s i : Nat} (hs : s < 12) (hi : i < 3), Wp (d + 2) 7 [.ref o, .int (nI s), .int (nI i)] (S, M, J) (fun rs w' => rs = .inl (some (.int (bI (¬ (vO M b) (43 + 2 * (3 * s + i)) < (vO M b) 2)))) ∧ w' = (S, M, J)) := by
  have h := @T_isStuck d S M J b (vO M b)
  simp only [sO_vO] at h
  exact h
theorem V_wearOfSlot {d : Nat} {S : Sc} {M : Nat → Nat → Int32} {J : Nat → Nat → Int64} {b : Nat} : ∀ (hS : OdS S b) {o : Nat} (ho : o = b + 1) {s : Nat} (hs : s < 12), Wp (d + 2) 8 [.ref o, .int (nI s)] (S, M, J) (fun rs w' => rs = .inl (some (.int (rWear (vO M b) s))) ∧ w' = (S, M, J)) := by
  have h := @T_wearOfSlot d S M J b (vO M b)
  simp only [sO_vO] at h
  exact h
theorem V_spokenBy {d : Nat} {S : Sc} {M : Nat → Nat → Int32} {J : Nat → Nat → Int64} {b : Nat} : ∀ (hS : OdS S b) {o : Nat} (ho : o = b + 1) {s : Nat} (hs : s < 12), Wp (d + 2) 9 [.ref o, .int (nI s)] (S, M, J) (fun rs w' => rs = .inl (some (.int (rSays (vO M b) s))) ∧ w' = (S, M, J)) := by
  have h := @T_spokenBy d S M J b (vO M b)
  simp only [sO_vO] at h
  exact h
theorem V_readableIn {d : Nat} {S : Sc} {M : Nat → Nat → Int32} {J : Nat → Nat → Int64} {b : Nat} : ∀ (hS : OdS S b) {o : Nat} (ho : o = b + 1) {s : Nat} (hs : s < 12), Wp (d + 2) 10 [.ref o, .int (nI s)] (S, M, J) (fun rs w' => rs = .inl (some (.int (rReadable (vO M b) s 3))) ∧ w' = (S, M, J)) := by
  have h := @T_readableIn d S M J b (vO M b)
  simp only [sO_vO] at h
  exact h
theorem V_renew {d : Nat} {S : Sc} {M : Nat → Nat → Int32} {J : Nat → Nat → Int64} {b : Nat} : ∀ (hS : OdS S b) {o : Nat} (ho : o = b + 1) {s : Nat} (hs : s < 12), Wp (d + 1) 12 [.ref o, .int (nI s)] (S, M, J) (fun rs w' => rs = .inl (some (.int (rWear (vO M b) s))) ∧ w' = (S, sO M b (rRenew (vO M b) s), J)) := by
  have h := @T_renew d S M J b (vO M b)
  simp only [sO_vO] at h
  exact h
theorem V_wearGap {d : Nat} {S : Sc} {M : Nat → Nat → Int32} {J : Nat → Nat → Int64} {b : Nat} : ∀ (hS : OdS S b) {o : Nat} (ho : o = b + 1) {n : Nat} (h0 : (vO M b) 0 = nI n) (hn : n ≤ 12), Wp (d + 2) 13 [.ref o] (S, M, J) (fun rs w' => rs = .inl (some (.int (cMx (vO M b) (3 * n) - cMn (vO M b) (3 * n)))) ∧ w' = (S, M, J)) := by
  have h := @T_wearGap d S M J b (vO M b)
  simp only [sO_vO] at h
  exact h
theorem V_codeAt {d : Nat} {S : Sc} {M : Nat → Nat → Int32} {J : Nat → Nat → Int64} {b : Nat} : ∀ (hS : OdS S b) {o : Nat} (ho : o = b + 4) {q : Nat} (hq : q < 12), Wp (d + 1) 40 [.ref o, .int (nI q)] (S, M, J) (fun rs w' => rs = .inl (some (.int ((vO M b) (18 + 2 * q)))) ∧ w' = (S, M, J)) := by
  have h := @T_codeAt d S M J b (vO M b)
  simp only [sO_vO] at h
  exact h
theorem V_notedAt {d : Nat} {S : Sc} {M : Nat → Nat → Int32} {J : Nat → Nat → Int64} {b : Nat} : ∀ (hS : OdS S b) {o : Nat} (ho : o = b + 4) {q : Nat} (hq : q < 12), Wp (d + 1) 41 [.ref o, .int (nI q)] (S, M, J) (fun rs w' => rs = .inl (some (.int ((vO M b) (19 + 2 * q)))) ∧ w' = (S, M, J)) := by
  have h := @T_notedAt d S M J b (vO M b)
  simp only [sO_vO] at h
  exact h
theorem V_placeOf {d : Nat} {S : Sc} {M : Nat → Nat → Int32} {J : Nat → Nat → Int64} {b : Nat} : ∀ (hS : OdS S b) {o : Nat} (ho : o = b + 4) {n : Nat} {x y : Int32} (hn : n ≤ 12) (h17 : (vO M b) 17 = nI n) (hD : Dst (vO M b) n), Wp (d + 2) 42 [.ref o, .int x, .int y] (S, M, J) (fun rs w' => rs = .inl (some (.int (rFnd (vO M b) (10 * x + y) n))) ∧ w' = (S, M, J)) := by
  have h := @T_placeOf d S M J b (vO M b)
  simp only [sO_vO] at h
  exact h
theorem V_hasRoom {d : Nat} {S : Sc} {M : Nat → Nat → Int32} {J : Nat → Nat → Int64} {b : Nat} : ∀ (hS : OdS S b) {o : Nat} (ho : o = b + 4) {n : Nat} {x y : Int32} (hn : n ≤ 12) (h17 : (vO M b) 17 = nI n) (hD : Dst (vO M b) n), Wp (d + 3) 43 [.ref o, .int x, .int y] (S, M, J) (fun rs w' => rs = .inl (some (.int (bI ((vO M b) 17 < 12 ∨ ¬ rFnd (vO M b) (10 * x + y) n = -99999)))) ∧ w' = (S, M, J)) := by
  have h := @T_hasRoom d S M J b (vO M b)
  simp only [sO_vO] at h
  exact h
theorem V_takeOut {d : Nat} {S : Sc} {M : Nat → Nat → Int32} {J : Nat → Nat → Int64} {b : Nat} : ∀ (hS : OdS S b) {o : Nat} (ho : o = b + 4) {i n : Nat} (hi : i < n) (hn : n ≤ 12) (h17 : (vO M b) 17 = nI n), Wp (d + 2) 45 [.ref o, .int (nI i)] (S, M, J) (fun rs w' => rs = .inl (some (.int ((vO M b) (19 + 2 * i)))) ∧ w' = (S, sO M b (rDrop (vO M b) i n), J)) := by
  have h := @T_takeOut d S M J b (vO M b)
  simp only [sO_vO] at h
  exact h
theorem V_smallest {d : Nat} {S : Sc} {M : Nat → Nat → Int32} {J : Nat → Nat → Int64} {b : Nat} : ∀ (hS : OdS S b) {o : Nat} (ho : o = b + 4) {n : Nat} (hn : n ≤ 12) (h17 : (vO M b) 17 = nI n), Wp (d + 2) 46 [.ref o] (S, M, J) (fun rs w' => rs = .inl (some (.int (rSm (vO M b) n))) ∧ w' = (S, M, J)) := by
  have h := @T_smallest d S M J b (vO M b)
  simp only [sO_vO] at h
  exact h
theorem V_cGo {d : Nat} {S : Sc} {M : Nat → Nat → Int32} {J : Nat → Nat → Int64} {b : Nat} : ∀ (hS : OdS S b) {t : Nat} (ht : t < 1000000) (hok : Rok (vO M b)) (hB : Bok (vO M b)) (hK : Kok (vO M b)), Wp (d + 5) 24 [.ref b, .int (nI t)] (S, M, J) (fun rs w' => rs = .inl (some (.int (nI (rGone t (vO M b))))) ∧ w' = (S, sO M b (rGo t (vO M b)), J)) := by
  have h := @T_cGo d S M J b (vO M b)
  simp only [sO_vO] at h
  exact h
theorem V_cStore {d : Nat} {S : Sc} {M : Nat → Nat → Int32} {J : Nat → Nat → Int64} {b : Nat} : ∀ (hS : OdS S b) (hok : Rok (vO M b)) (z3 : (vO M b) 3 = 1) (z12 : (vO M b) 12 = 0) (hK : Kok (vO M b)), Wp (d + 4) 26 [.ref b] (S, M, J) (fun rs w' => rs = .inl none ∧ w' = (S, sO M b (rStore (vO M b)), J)) := by
  have h := @T_cStore d S M J b (vO M b)
  simp only [sO_vO] at h
  exact h
theorem V_switchOn {d : Nat} {S : Sc} {M : Nat → Nat → Int32} {J : Nat → Nat → Int64} {b : Nat} : ∀ (hS : OdS S b) {B : Nat} (hI : Inv B (vO M b)) (hB : B < 1073741824), Wp (d + 4) 30 [.ref b] (S, M, J) (fun rs w' => rs = .inl (some (.int (rPower (vO M b) 4))) ∧ w' = (S, sO M b (rPower (vO M b)), J)) := by
  have h := @T_switchOn d S M J b (vO M b)
  simp only [sO_vO] at h
  exact h
theorem V_setCut {d : Nat} {S : Sc} {M : Nat → Nat → Int32} {J : Nat → Nat → Int64} {b : Nat} : ∀ (hS : OdS S b) {q k : Int32}, Wp (d + 1) 31 [.ref b, .int q, .int k] (S, M, J) (fun rs w' => rs = .inl (some (.int ((vO M b) 10))) ∧ w' = (S, sO M b (upd (upd (vO M b) 10 q) 11 k), J)) := by
  have h := @T_setCut d S M J b (vO M b)
  simp only [sO_vO] at h
  exact h
theorem V_canReplace {d : Nat} {S : Sc} {M : Nat → Nat → Int32} {J : Nat → Nat → Int64} {b : Nat} : ∀ (hS : OdS S b) {x : Int32}, Wp (d + 2) 33 [.ref b, .int x] (S, M, J) (fun rs w' => rs = .inl (some (.int (bI (¬ (vO M b) 3 = 0 ∧ (¬ x < 0 ∧ ¬ (vO M b) 0 ≤ x) ∧ ¬ x = (vO M b) 7)))) ∧ w' = (S, M, J)) := by
  have h := @T_canReplace d S M J b (vO M b)
  simp only [sO_vO] at h
  exact h
theorem V_noteService {d : Nat} {S : Sc} {M : Nat → Nat → Int32} {J : Nat → Nat → Int64} {b : Nat} : ∀ (hS : OdS S b) {n : Nat} {x y : Int32} (hn : n ≤ 12) (h17 : (vO M b) 17 = nI n) (hD : Dst (vO M b) n) (hr : n < 12 ∨ ¬ rFnd (vO M b) (10 * x + y) n = -99999), Wp (d + 3) 32 [.ref b, .int x, .int y] (S, M, J) (fun rs w' => rs = .inl (some (.int (rServed (vO M b) (10 * x + y) n))) ∧ w' = (S, sO M b (rServe (vO M b) (10 * x + y) n), J)) := by
  have h := @T_noteService d S M J b (vO M b)
  simp only [sO_vO] at h
  exact h
theorem V_till {d : Nat} {S : Sc} {M : Nat → Nat → Int32} {J : Nat → Nat → Int64} {b : Nat} : ∀ (hS : OdS S b) {B : Nat} (hI : Inv B (vO M b)) (hB : B < 100000000) (h3 : (vO M b) 3 = 1) (h10 : (vO M b) 10 = 0), Wp (d + 5) 25 [.ref b] (S, M, J) (fun rs w' => rs = .inl (some (.int (if (cTl 10000 0 (vO M b)).1 ≤ 9999 then nI (cTl 10000 0 (vO M b)).1 else -99999))) ∧ w' = (S, sO M b ((cTl 10000 0 (vO M b)).2), J)) := by
  have h := @T_till d S M J b (vO M b)
  simp only [sO_vO] at h
  exact h
theorem V_obeyGroup {d : Nat} {S : Sc} {M : Nat → Nat → Int32} {J : Nat → Nat → Int64} {b : Nat} : ∀ (hS : OdS S b) {g B : Nat} (hI : Inv B (vO M b)) (hB : B < 1073741824) (hg : g < 10000), Wp (d + 7) 35 [.ref b, .int (nI g)] (S, M, J) (fun rs w' => rs = .inl (some (.int (gAns (vO M b) g (g / 1000)))) ∧ w' = (S, sO M b (gRow (vO M b) g (g / 1000)), J)) := by
  have h := @T_obeyGroup d S M J b (vO M b)
  simp only [sO_vO] at h
  exact h
theorem V_round {d : Nat} {S : Sc} {M : Nat → Nat → Int32} {J : Nat → Nat → Int64} {b : Nat} : ∀ (hS : OdS S b) {q B : Nat} (hI : Inv B (vO M b)) (hB : B < 1073741824) (hq : q < 2147483648), Wp (d + 6) 37 [.ref b, .int (nI q)] (S, M, J) (fun rs w' => rs = .inl none ∧ w' = (S, sO M b (rRound (vO M b) q), J)) := by
  have h := @T_round d S M J b (vO M b)
  simp only [sO_vO] at h
  exact h
theorem V_oLike {d : Nat} {S : Sc} {M : Nat → Nat → Int32} {J : Nat → Nat → Int64} {b : Nat} : ∀ (hS : OdS S b) {b2 : Nat} (hS2 : OdS S b2) (hd : b2 + 7 ≤ b ∨ b + 7 ≤ b2) (B3 : vO M b2 3 = 0 ∨ vO M b2 3 = 1) (B4 : vO M b2 12 = 0 ∨ vO M b2 12 = 1), Wp (d + 2) 21 [.ref b, .ref b2] (S, M, J) (fun rs w' => rs = .inl none ∧ w' = (S, sO M b (vO M b2), J)) := by
  have h := @T_oLike d S M J b (vO M b)
  simp only [sO_vO] at h
  exact h
theorem V_cNew {d : Nat} {S : Sc} {M : Nat → Nat → Int32} {J : Nat → Nat → Int64} {b : Nat} : ∀ (hS : OdS S b) {a st l : Int32}, Wp (d + 3) 20 [.ref b, .int a, .int st, .int l] (S, M, J) (fun rs w' => rs = .inl none ∧ w' = (S, sO M b (cNew (vO M b) a st l), J)) := by
  have h := @T_cNew d S M J b (vO M b)
  simp only [sO_vO] at h
  exact h
theorem V_obey_d {d : Nat} {S : Sc} {M : Nat → Nat → Int32} {J : Nat → Nat → Int64} {b : Nat} : ∀ (hS : OdS S b) {t : Nat} {y : Int32} (ht : t < 1000000) {B : Nat} (hI : Inv B (vO M b)) (hB : B < 1073741824), Wp (d + 6) 34 [.ref b, .int 100, .int (nI t), .int (y)] (S, M, J) (fun rs w' => rs = .inl (some (.int (bI (¬ (vO M b) 3 = 0 ∧ (¬ nI t < 1 ∧ ¬ 999 < nI t))))) ∧ w' = (S, sO M b (if ¬ (vO M b) 3 = 0 ∧ (¬ nI t < 1 ∧ ¬ 999 < nI t) then rGo t (vO M b) else (vO M b)), J)) := by
  have h := @T_obey_d d S M J b (vO M b)
  simp only [sO_vO] at h
  exact h
theorem V_obey_c {d : Nat} {S : Sc} {M : Nat → Nat → Int32} {J : Nat → Nat → Int64} {b : Nat} : ∀ (hS : OdS S b) {x y : Int32} {B : Nat} (hI : Inv B (vO M b)) (hB : B < 1073741824), Wp (d + 2) 34 [.ref b, .int 99, .int (x), .int (y)] (S, M, J) (fun rs w' => rs = .inl (some (.int (bI (¬ (vO M b) 3 = 0 ∧ (¬ x < 1 ∧ ¬ 36 < x ∧ ¬ y < 0 ∧ ¬ 2 < y))))) ∧ w' = (S, sO M b (if ¬ (vO M b) 3 = 0 ∧ (¬ x < 1 ∧ ¬ 36 < x ∧ ¬ y < 0 ∧ ¬ 2 < y) then upd (upd (vO M b) 10 x) 11 y else (vO M b)), J)) := by
  have h := @T_obey_c d S M J b (vO M b)
  simp only [sO_vO] at h
  exact h
theorem V_obey_s {d : Nat} {S : Sc} {M : Nat → Nat → Int32} {J : Nat → Nat → Int64} {b : Nat} : ∀ (hS : OdS S b) {x y : Int32} {B : Nat} (hI : Inv B (vO M b)) (hB : B < 1073741824), Wp (d + 5) 34 [.ref b, .int 115, .int (x), .int (y)] (S, M, J) (fun rs w' => rs = .inl (some (.int (bI ((vO M b) 3 = 0)))) ∧ w' = (S, sO M b (if (vO M b) 3 = 0 then rPower (vO M b) else (vO M b)), J)) := by
  have h := @T_obey_s d S M J b (vO M b)
  simp only [sO_vO] at h
  exact h
theorem V_obey_m {d : Nat} {S : Sc} {M : Nat → Nat → Int32} {J : Nat → Nat → Int64} {b : Nat} : ∀ (hS : OdS S b) {x y : Int32} {B : Nat} (hI : Inv B (vO M b)) (hB : B < 1073741824), Wp (d + 4) 34 [.ref b, .int 109, .int (x), .int (y)] (S, M, J) (fun rs w' => rs = .inl (some (.int (bI (¬ (vO M b) 3 = 0 ∧ (¬ x < 0 ∧ ¬ 9 < x ∧ ¬ y < 0 ∧ ¬ 9 < y) ∧ ((vO M b) 17 < 12 ∨ ¬ rFnd (vO M b) (10 * x + y) ((vO M b) 17).toNatClampNeg = -99999))))) ∧ w' = (S, sO M b (if ¬ (vO M b) 3 = 0 ∧ (¬ x < 0 ∧ ¬ 9 < x ∧ ¬ y < 0 ∧ ¬ 9 < y) ∧ ((vO M b) 17 < 12 ∨ ¬ rFnd (vO M b) (10 * x + y) ((vO M b) 17).toNatClampNeg = -99999) then rServe (vO M b) (10 * x + y) ((vO M b) 17).toNatClampNeg else (vO M b)), J)) := by
  have h := @T_obey_m d S M J b (vO M b)
  simp only [sO_vO] at h
  exact h
theorem V_obey_r {d : Nat} {S : Sc} {M : Nat → Nat → Int32} {J : Nat → Nat → Int64} {b : Nat} : ∀ (hS : OdS S b) {s : Nat} {y : Int32} (hs : s < 1000000) {B : Nat} (hI : Inv B (vO M b)) (hB : B < 1073741824), Wp (d + 4) 34 [.ref b, .int 114, .int (nI s), .int (y)] (S, M, J) (fun rs w' => rs = .inl (some (.int (bI (¬ (vO M b) 3 = 0 ∧ (¬ nI s < 0 ∧ ¬ (vO M b) 0 ≤ nI s) ∧ ¬ nI s = (vO M b) 7)))) ∧ w' = (S, sO M b (if ¬ (vO M b) 3 = 0 ∧ (¬ nI s < 0 ∧ ¬ (vO M b) 0 ≤ nI s) ∧ ¬ nI s = (vO M b) 7 then rRenew (vO M b) s else (vO M b)), J)) := by
  have h := @T_obey_r d S M J b (vO M b)
  simp only [sO_vO] at h
  exact h
/-- a shelf at b, of n places -/
def ShS (S : Sc) (b n : Nat) : Prop := S.2.1 b = 4 ∧ S.2.2.2 b 0 = b + 1 ∧ S.2.2.2 b 1 = b + 2 ∧ S.2.1 (b + 1) = 11 ∧ S.2.2.1 (b + 1) = n ∧ S.2.1 (b + 2) = 9 ∧ S.2.2.1 (b + 2) = n ∧ ∀ k, k < n → S.2.2.2 (b + 1) k = b + 3 + 7 * k ∧ OdS S (b + 3 + 7 * k)
def RgS (S : Sc) : Prop := StS S ∧ OdS S 4 ∧ OdS S 11 ∧ (S.2.1 1 = 6 ∧ S.2.2.2 1 0 = 2 ∧ S.2.2.2 1 1 = 4 ∧ S.2.2.2 1 2 = 11 ∧ S.2.2.2 1 3 = 18 ∧ S.2.2.2 1 4 = 120) ∧ (S.2.1 18 = 1 ∧ S.2.2.2 18 2 = 19) ∧ ShS S 19 14 ∧ ShS S 120 2
set_option maxHeartbeats 1000000 in
theorem T_isFull {d : Nat} {S : Sc} {M : Nat → Nat → Int32} {J : Nat → Nat → Int64} {b n : Nat} (hSh : ShS S b n) (hn : n < 100) {x : Nat} (hx : x < n) : Wp (d + 1) 49 [.ref b, .int (nI x)] (S, M, J) (fun rs w' => rs = .inl (some (.int (bI (¬ M (b + 2) x = 0)))) ∧ w' = (S, M, J)) := by
  obtain ⟨s0, s1, s2, s3, s4, s5, s6, s7⟩ := id hSh
  refine ⟨rfl, ?_⟩
  refine EE.runN (stop := noStop) 80 _ ?_
  refine ⟨fun h1 => ?_, fun h1 => ?_⟩
  · exact absurd h1 (nI_pos (by omega))
  · refine ⟨by simp only [wI_1, wI_w, s0, s1, s2, s3, s4, s5, s6] <;> first | rfl | decide, ?_⟩
    refine ⟨by simp only [wI_1, wI_w, s0, s1, s2, s3, s4, s5, s6] <;> first | rfl | decide, ?_⟩
    refine ⟨fun h2 => ?_, fun h2 => ?_⟩
    · (have h_ := h2; simp only [s1, s2, s4, s6] at h_; rw [show Int32.ofNat n = nI n from rfl, nI_leI (by omega) (by omega)] at h_; omega)
    · refine ⟨by simp only [wI_1, wI_w, s0, s1, s2, s3, s4, s5, s6] <;> first | rfl | decide, ?_⟩
      refine ⟨by simp only [wI_1, wI_w, s0, s1, s2, s3, s4, s5, s6] <;> first | rfl | decide, (by simp only [s1, s2, s4, s6]; exact vp_in_nI hx (by omega)), ?_⟩
      refine ⟨fun h3 => ?_, fun h3 => ?_⟩
      · simp only [s2, ck (show x < 2147483648 by omega)] at h3
        refine ⟨⟨Nat.zero_le _, Nat.zero_le _⟩, by decide, congrArg (fun v => Sum.inl (some (Value.int v))) ?_, rfl⟩
        exact (bI_f (fun h_ => h_ h3)).symm
      · simp only [s2, ck (show x < 2147483648 by omega)] at h3
        refine ⟨⟨Nat.zero_le _, Nat.zero_le _⟩, by decide, congrArg (fun v => Sum.inl (some (Value.int v))) ?_, rfl⟩
        exact (bI_t h3).symm
set_option maxHeartbeats 1000000 in
theorem T_emptyAll {d : Nat} {S : Sc} {M : Nat → Nat → Int32} {J : Nat → Nat → Int64} {b n : Nat} (hSh : ShS S b n) (hn : n < 100) : Wp (d + 1) 50 [.ref b] (S, M, J) (fun rs w' => rs = .inl none ∧ w' = (S, upA M (b + 2) (rClear (M (b + 2)) n), J)) := by
  obtain ⟨s0, s1, s2, s3, s4, s5, s6, s7⟩ := id hSh
  refine ⟨rfl, ?_⟩
  refine EE.runN (stop := atPc [2]) 80 _ ?_
  refine ee_at (nt := nzT 50) [(0, .ref b), (1, .int (nI (0)))] (S, upA M (b + 2) (rClear (M (b + 2)) (0)), J) rfl (by rfl) (by rw [show rClear (M (b + 2)) 0 = M (b + 2) from funext fun q => if_neg (by omega), upA_id]) ?_
  refine ee_loop (fun k => (2, [(0, .ref b), (1, .int (nI (k)))], [], (S, upA M (b + 2) (rClear (M (b + 2)) (k)), J), 0, 0)) (n) (fun k h_k ih_k => ?_) ?_
  · refine EE.runN (stop := atPc [2]) 80 _ ?_
    refine ⟨by simp only [wI_1, wI_w, s0, s1, s2, s3, s4, s5, s6] <;> first | rfl | decide, ?_⟩
    refine ⟨by simp only [wI_1, wI_w, s0, s1, s2, s3, s4, s5, s6] <;> first | rfl | decide, ?_⟩
    refine ⟨fun h1 => ?_, fun h1 => ?_⟩
    · (have h_ := h1; simp only [s1, s2, s4, s6] at h_; exact absurd h_ (nI_ge h_k (by omega)))
    · refine ⟨by simp only [wI_1, wI_w, s0, s1, s2, s3, s4, s5, s6] <;> first | rfl | decide, ?_⟩
      refine ⟨by simp only [wI_1, wI_w, s0, s1, s2, s3, s4, s5, s6] <;> first | rfl | decide, (by simp only [s1, s2, s4, s6]; exact vp_in_nI h_k (by omega)), ?_⟩
      refine ee_at (nt := nzT 50) [(0, .ref b), (1, .int (nI ((k + 1))))] (S, upA M (b + 2) (rClear (M (b + 2)) ((k + 1))), J) rfl (by rw [← nI_1 k]; rfl) (by show (S, _, J) = (S, _, J); simp only [wI_M, wI_w, s2, upA_s, upA_uu, ck (show k < 2147483648 by omega)]; rw [show (vp_nar .boolean 0 : Int32) = 0 from rfl, rClear_s]) ?_
      exact ih_k
  · refine EE.runN (stop := atPc [2]) 80 _ ?_
    refine ⟨by simp only [wI_1, wI_w, s0, s1, s2, s3, s4, s5, s6] <;> first | rfl | decide, ?_⟩
    refine ⟨by simp only [wI_1, wI_w, s0, s1, s2, s3, s4, s5, s6] <;> first | rfl | decide, ?_⟩
    refine ⟨fun h2 => ?_, fun h2 => ?_⟩
    · exact ⟨⟨Nat.zero_le _, Nat.zero_le _⟩, rfl, rfl⟩
    · (have h_ := h2; simp only [s1, s2, s4, s6] at h_; exact absurd (nI_le (Nat.le_refl n) (by omega)) h_)
set_option maxHeartbeats 1000000 in
theorem T_shPut {d : Nat} {S : Sc} {M : Nat → Nat → Int32} {J : Nat → Nat → Int64} {b n : Nat} (hSh : ShS S b n) (hn : n < 100) {x : Nat} (hx : x < n) (hO : OdS S 4) (hb : 11 ≤ b) (B3 : vO M 4 3 = 0 ∨ vO M 4 3 = 1) (B4 : vO M 4 12 = 0 ∨ vO M 4 12 = 1) : Wp (d + 3) 51 [.ref b, .int (nI x), .ref 4] (S, M, J) (fun rs w' => rs = .inl none ∧ w' = (S, upA (sO M (b + 3 + 7 * x) (vO M 4)) (b + 2) (upd (M (b + 2)) x 1), J)) := by
  obtain ⟨s0, s1, s2, s3, s4, s5, s6, s7⟩ := id hSh
  have kx := (s7 x hx).2.1.1
  have sx : S.2.1 (S.2.2.2 (b + 1) (nI x).toNatClampNeg) = 2 := by rw [ck (show x < 2147483648 by omega), (s7 x hx).1]; exact kx
  refine ⟨rfl, ?_⟩
  refine EE.runN (stop := noStop) 80 _ ?_
  refine ⟨fun h1 => ?_, fun h1 => ?_⟩
  · exact absurd h1 (nI_pos (by omega))
  · refine ⟨by simp only [wI_1, wI_w, s0, s1, s2, s3, s4, s5, s6, sx] <;> first | rfl | decide, ?_⟩
    refine ⟨by simp only [wI_1, wI_w, s0, s1, s2, s3, s4, s5, s6, sx] <;> first | rfl | decide, ?_⟩
    refine ⟨fun h2 => ?_, fun h2 => ?_⟩
    · (have h_ := h2; simp only [s1, s2, s4, s6] at h_; rw [show Int32.ofNat n = nI n from rfl, nI_leI (by omega) (by omega)] at h_; omega)
    · refine ⟨by simp only [wI_1, wI_w, s0, s1, s2, s3, s4, s5, s6, sx] <;> first | rfl | decide, ?_⟩
      refine ⟨by simp only [wI_1, wI_w, s0, s1, s2, s3, s4, s5, s6, sx] <;> first | rfl | decide, ?_⟩
      refine ⟨fun h3 => ?_, fun h3 => ?_⟩
      · refine ⟨by simp only [wI_1, wI_w, s0, s1, s2, s3, s4, s5, s6, sx] <;> first | rfl | decide, ?_⟩
        refine ⟨by simp only [wI_1, wI_w, s0, s1, s2, s3, s4, s5, s6, sx] <;> first | rfl | decide, (by simp only [s1, s2, s4, s6]; exact vp_in_nI hx (by omega)), ?_⟩
        refine ⟨fun h4 => ?_, fun h4 => ?_⟩
        · (have h_ := h4; simp only [s1, ck (show x < 2147483648 by omega), (s7 x hx).1] at h_; omega)
        · refine ⟨⟨Nat.le_of_ble_eq_true rfl, Nat.le_of_ble_eq_true rfl, Nat.le_of_ble_eq_true rfl⟩, by simp only [wI_1, wI_w, s0, s1, s2, s3, s4, s5, s6, sx] <;> first | rfl | decide, _, by simp only [s1, ck (show x < 2147483648 by omega), (s7 x hx).1]; exact V_oLike (b := b + 3 + 7 * x) (s7 x hx).2 hO (Or.inl (by omega)) B3 B4, ?_⟩
          rintro _ _ ⟨rfl, rfl⟩
          refine ⟨Or.inl rfl, ?_⟩
          refine ⟨by simp only [wI_1, wI_w, s0, s1, s2, s3, s4, s5, s6, sx] <;> first | rfl | decide, ?_⟩
          refine ⟨by simp only [wI_1, wI_w, s0, s1, s2, s3, s4, s5, s6, sx] <;> first | rfl | decide, (by simp only [s1, s2, s4, s6]; exact vp_in_nI hx (by omega)), ?_⟩
          refine ⟨⟨Nat.zero_le _, Nat.zero_le _⟩, rfl, ?_⟩
          show (S, _, J) = (S, _, J)
          simp only [wI_w, s2, ck (show x < 2147483648 by omega), sO_ot M (b + 3 + 7 * x) (vO M 4) (show b + 2 < b + 3 + 7 * x ∨ b + 3 + 7 * x + 7 ≤ b + 2 by omega)]
          rfl
      · (have h_ := h3; simp only [s1, s2, s4, s6] at h_; rw [show Int32.ofNat n = nI n from rfl, nI_ltI (by omega) (by omega)] at h_; omega)
set_option maxHeartbeats 1000000 in
theorem T_shTake {d : Nat} {S : Sc} {M : Nat → Nat → Int32} {J : Nat → Nat → Int64} {b n : Nat} (hSh : ShS S b n) (hn : n < 100) {x : Nat} (hx : x < n) (hO : OdS S 4) (hb : 11 ≤ b) (B3 : vO M (b + 3 + 7 * x) 3 = 0 ∨ vO M (b + 3 + 7 * x) 3 = 1) (B4 : vO M (b + 3 + 7 * x) 12 = 0 ∨ vO M (b + 3 + 7 * x) 12 = 1) : Wp (d + 3) 52 [.ref b, .int (nI x), .ref 4] (S, M, J) (fun rs w' => rs = .inl none ∧ w' = (S, sO M 4 (vO M (b + 3 + 7 * x)), J)) := by
  obtain ⟨s0, s1, s2, s3, s4, s5, s6, s7⟩ := id hSh
  refine ⟨rfl, ?_⟩
  refine EE.runN (stop := noStop) 80 _ ?_
  refine ⟨fun h1 => ?_, fun h1 => ?_⟩
  · exact absurd h1 (nI_pos (by omega))
  · refine ⟨by first | (simp only [wI_1, wI_w, s0, s1, s2, s3, s4, s5, s6] <;> first | rfl | decide) | exact hO.1.1, ?_⟩
    refine ⟨by first | (simp only [wI_1, wI_w, s0, s1, s2, s3, s4, s5, s6] <;> first | rfl | decide) | exact hO.1.1, ?_⟩
    refine ⟨fun h2 => ?_, fun h2 => ?_⟩
    · refine ⟨by first | (simp only [wI_1, wI_w, s0, s1, s2, s3, s4, s5, s6] <;> first | rfl | decide) | exact hO.1.1, ?_⟩
      refine ⟨by first | (simp only [wI_1, wI_w, s0, s1, s2, s3, s4, s5, s6] <;> first | rfl | decide) | exact hO.1.1, (by simp only [s1, s2, s4, s6]; exact vp_in_nI hx (by omega)), ?_⟩
      refine ⟨fun h3 => ?_, fun h3 => ?_⟩
      · (have h_ := h3; simp only [s1, ck (show x < 2147483648 by omega), (s7 x hx).1] at h_; omega)
      · refine ⟨⟨Nat.le_of_ble_eq_true rfl, Nat.le_of_ble_eq_true rfl, Nat.le_of_ble_eq_true rfl⟩, by first | (simp only [wI_1, wI_w, s0, s1, s2, s3, s4, s5, s6] <;> first | rfl | decide) | exact hO.1.1, _, by simp only [s1, ck (show x < 2147483648 by omega), (s7 x hx).1]; exact V_oLike (b := 4) (b2 := b + 3 + 7 * x) hO (s7 x hx).2 (Or.inr (by omega)) B3 B4, ?_⟩
        rintro _ _ ⟨rfl, rfl⟩
        refine ⟨Or.inl rfl, ?_⟩
        exact ⟨⟨Nat.zero_le _, Nat.zero_le _⟩, rfl, rfl⟩
    · (have h_ := h2; simp only [s1, s2, s4, s6] at h_; rw [show Int32.ofNat n = nI n from rfl, nI_ltI (by omega) (by omega)] at h_; omega)
def hRem (M : Nat → Nat → Int32) (a x : Nat) : Nat → Nat → Int32 := upA (upA (sO M (22 + 7 * x) (vO M 4)) 21 (upd (M 21) x 1)) 18 (upd (upd (M 18) 1 (nI ((x + 1) % 14))) 0 (nI (min (a + 1) 14)))
def hBack (M : Nat → Nat → Int32) (a x : Nat) : Nat → Nat → Int32 := upA (sO M 4 (vO M (22 + 7 * ((x + 13) % 14)))) 18 (upd (upd (M 18) 1 (nI ((x + 13) % 14))) 0 (nI (a - 1)))
set_option maxHeartbeats 1000000 in
theorem T_remember {d : Nat} {S : Sc} {M : Nat → Nat → Int32} {J : Nat → Nat → Int64} {a x : Nat} (hR : RgS S) (ha : a ≤ 14) (hx : x < 14) (h0 : M 18 0 = nI a) (h1 : M 18 1 = nI x) (B3 : vO M 4 3 = 0 ∨ vO M 4 3 = 1) (B4 : vO M 4 12 = 0 ∨ vO M 4 12 = 1) : Wp (d + 4) 16 [.ref 18, .ref 4] (S, M, J) (fun rs w' => rs = .inl none ∧ w' = (S, hRem M a x, J)) := by
  obtain ⟨hSt, hO, hOt, ⟨b1, r10, r11, r12, r13, r14⟩, ⟨b18, r182⟩, hH, hV⟩ := id hR
  refine ⟨rfl, ?_⟩
  refine EE.runN (stop := noStop) 80 _ ?_
  refine ⟨by simp only [wI_1, wI_w, b1, r10, r11, r12, r13, r14, b18, r182, hH.1, hV.1] <;> first | rfl | decide, ?_⟩
  refine ⟨by simp only [wI_1, wI_w, b1, r10, r11, r12, r13, r14, b18, r182, hH.1, hV.1] <;> first | rfl | decide, ?_⟩
  refine ⟨⟨Nat.le_of_ble_eq_true rfl, Nat.le_of_ble_eq_true rfl, Nat.le_of_ble_eq_true rfl⟩, by simp only [wI_1, wI_w, b1, r10, r11, r12, r13, r14, b18, r182, hH.1, hV.1] <;> first | rfl | decide, _, by simp only [r182, h1]; exact T_shPut (b := 19) hH (by omega) hx hO (by omega) B3 B4, ?_⟩
  rintro _ w1 ⟨rfl, hw⟩
  have e18 : ∀ k, upA (sO M (19 + 3 + 7 * x) (vO M 4)) (19 + 2) (upd (M (19 + 2)) x 1) 18 k = M 18 k := fun k => by rw [upA_n _ _ (by omega), sO_ot _ _ _ (Or.inl (by omega))]
  subst hw
  refine ⟨Or.inl rfl, ?_⟩
  refine ⟨by simp only [wI_1, wI_w, b1, r10, r11, r12, r13, r14, b18, r182, hH.1, hV.1] <;> first | rfl | decide, ?_⟩
  refine ⟨by first | decide | simp only [wI_1, wI_w, b1, r10, r11, r12, r13, r14, b18, r182, hH.1, hV.1] <;> first | rfl | decide, ?_⟩
  refine ⟨by simp only [wI_1, wI_w, b1, r10, r11, r12, r13, r14, b18, r182, hH.1, hV.1] <;> first | rfl | decide, trivial, ?_⟩
  refine ⟨by simp only [wI_1, wI_w, b1, r10, r11, r12, r13, r14, b18, r182, hH.1, hV.1] <;> first | rfl | decide, ?_⟩
  refine ⟨⟨Nat.le_of_ble_eq_true rfl, Nat.zero_le _, Nat.zero_le _⟩, ?_⟩
  refine ⟨by simp only [wI_1, wI_w, b1, r10, r11, r12, r13, r14, b18, r182, hH.1, hV.1] <;> first | rfl | decide, trivial, ?_⟩
  refine ⟨⟨Nat.zero_le _, Nat.zero_le _⟩, rfl, ?_⟩
  show (S, _, J) = (S, _, J)
  simp only [wI_M, wI_w, upA_s, upA_uu, pk_un (show (0 : Nat) ≠ 1 by omega), e18, h0, h1]
  have i1 : (nI x + 1 - (nI x + 1) / 14 * 14 : Int32) = nI ((x + 1) % 14) := by rw [nI_1, o_14, pk_rem (by omega) (by omega) (by omega)]
  have i2 : (if nI a + 1 < 14 then nI a + 1 else 14) = nI (min (a + 1) 14) := by rw [nI_1, o_14]; by_cases g : a + 1 < 14 <;> simp only [nI_ltI (show a + 1 < 2147483648 by omega) (show 14 < 2147483648 by omega), g, if_true, if_false] <;> congr 1 <;> omega
  have i3 : (if (14 : Int32) < nI a + 1 then (14 : Int32) else nI a + 1) = nI (min (a + 1) 14) := by rw [nI_1, o_14]; by_cases g : 14 < a + 1 <;> simp only [nI_ltI (show 14 < 2147483648 by omega) (show a + 1 < 2147483648 by omega), g, if_true, if_false] <;> congr 1 <;> omega
  rw [i1]
  first | rw [i2] | rw [i3]
  refine congrArg (fun m => (S, m, J)) ?_
  unfold hRem
  refine congrArg (upA _ 18) ?_
  funext q
  unfold upd
  by_cases g0 : q = 0
  · rw [if_pos g0, if_pos g0]
  · rw [if_neg g0, if_neg g0]
    by_cases g1 : q = 1
    · rw [if_pos g1, if_pos g1]
    · rw [if_neg g1, if_neg g1]; exact e18 q
set_option maxHeartbeats 1000000 in
theorem T_takeBack {d : Nat} {S : Sc} {M : Nat → Nat → Int32} {J : Nat → Nat → Int64} {a x : Nat} (hR : RgS S) (ha : a ≤ 14) (hx : x < 14) (h0 : M 18 0 = nI a) (h1 : M 18 1 = nI x) (h1a : 1 ≤ a) (B3 : vO M (22 + 7 * ((x + 13) % 14)) 3 = 0 ∨ vO M (22 + 7 * ((x + 13) % 14)) 3 = 1) (B4 : vO M (22 + 7 * ((x + 13) % 14)) 12 = 0 ∨ vO M (22 + 7 * ((x + 13) % 14)) 12 = 1) : Wp (d + 4) 17 [.ref 18, .ref 4] (S, M, J) (fun rs w' => rs = .inl (some (.int (nI (a - 1)))) ∧ w' = (S, (hBack M a x), J)) := by
  obtain ⟨hSt, hO, hOt, ⟨b1, r10, r11, r12, r13, r14⟩, ⟨b18, r182⟩, hH, hV⟩ := id hR
  have i1 : (nI x + 14 - 1 - (nI x + 14 - 1) / 14 * 14 : Int32) = nI ((x + 13) % 14) := by rw [o_14, nI_add, o_1, pk_sub (by omega), pk_rem (by omega) (by omega) (by omega)]; congr 1
  have ev : vO (upA M 18 (upd (M 18) 1 (nI ((x + 13) % 14)))) (19 + 3 + 7 * ((x + 13) % 14)) = vO M (22 + 7 * ((x + 13) % 14)) := by funext q; unfold vO; rw [upA_n _ _ (by omega)]
  refine ⟨rfl, ?_⟩
  refine EE.runN (stop := noStop) 80 _ ?_
  refine ⟨by simp only [wI_1, wI_w, b1, r10, r11, r12, r13, r14, b18, r182, hH.1, hV.1] <;> first | rfl | decide, ?_⟩
  refine ⟨by first | decide | simp only [wI_1, wI_w, b1, r10, r11, r12, r13, r14, b18, r182, hH.1, hV.1] <;> first | rfl | decide, ?_⟩
  refine ⟨by simp only [wI_1, wI_w, b1, r10, r11, r12, r13, r14, b18, r182, hH.1, hV.1] <;> first | rfl | decide, trivial, ?_⟩
  refine ⟨by simp only [wI_1, wI_w, b1, r10, r11, r12, r13, r14, b18, r182, hH.1, hV.1] <;> first | rfl | decide, ?_⟩
  refine ⟨by simp only [wI_1, wI_w, b1, r10, r11, r12, r13, r14, b18, r182, hH.1, hV.1] <;> first | rfl | decide, ?_⟩
  refine ⟨⟨Nat.le_of_ble_eq_true rfl, Nat.le_of_ble_eq_true rfl, Nat.le_of_ble_eq_true rfl⟩, by simp only [wI_1, wI_w, b1, r10, r11, r12, r13, r14, b18, r182, hH.1, hV.1] <;> first | rfl | decide, _, by simp only [wI_M, wI_w, r182, h1, i1, upA_s, pk_us]; exact T_shTake (M := upA M 18 (upd (M 18) 1 (nI ((x + 13) % 14)))) (x := (x + 13) % 14) (b := 19) hH (by omega) (by omega) hO (by omega) (by rw [ev]; exact B3) (by rw [ev]; exact B4), ?_⟩
  rintro _ w1 ⟨rfl, hw⟩
  rw [ev] at hw
  have e18 : ∀ k, sO (upA M 18 (upd (M 18) 1 (nI ((x + 13) % 14)))) 4 (vO M (22 + 7 * ((x + 13) % 14))) 18 k = upd (M 18) 1 (nI ((x + 13) % 14)) k := fun k => by rw [sO_ot _ _ _ (Or.inr (by omega)), upA_s]
  subst hw
  refine ⟨Or.inl rfl, ?_⟩
  refine ⟨by simp only [wI_1, wI_w, b1, r10, r11, r12, r13, r14, b18, r182, hH.1, hV.1] <;> first | rfl | decide, ?_⟩
  refine ⟨by simp only [wI_1, wI_w, b1, r10, r11, r12, r13, r14, b18, r182, hH.1, hV.1] <;> first | rfl | decide, trivial, ?_⟩
  refine ⟨by simp only [wI_1, wI_w, b1, r10, r11, r12, r13, r14, b18, r182, hH.1, hV.1] <;> first | rfl | decide, ?_⟩
  refine ⟨⟨Nat.zero_le _, Nat.zero_le _⟩, congrArg (fun v => Sum.inl (some (Value.int v))) ?_, ?_⟩
  · simp only [wI_M, wI_w, upA_s, pk_us, e18, pk_un (show (0 : Nat) ≠ 1 by omega), h0]; rw [o_1, pk_sub h1a]
  · show (S, _, J) = (S, _, J)
    simp only [wI_w, e18, pk_un (show (0 : Nat) ≠ 1 by omega), h0]
    rw [o_1, pk_sub h1a]
    refine congrArg (fun m => (S, m, J)) ?_
    unfold hBack
    funext c
    by_cases g : c = 18
    · subst g; rw [upA_s, upA_s]; funext q; unfold upd; by_cases g0 : q = 0
      · rw [if_pos g0, if_pos g0]
      · rw [if_neg g0, if_neg g0]; exact e18 q
    · rw [upA_n _ _ g, upA_n _ _ g]; unfold sO; funext q; rw [upA_n _ _ g]
set_option maxHeartbeats 1000000 in
theorem T_forgetAll {d : Nat} {S : Sc} {M : Nat → Nat → Int32} {J : Nat → Nat → Int64} (hR : RgS S) : Wp (d + 1) 18 [.ref 18] (S, M, J) (fun rs w' => rs = .inl none ∧ w' = (S, upA M 18 (upd (M 18) 0 0), J)) := by
  obtain ⟨hSt, hO, hOt, ⟨b1, r10, r11, r12, r13, r14⟩, ⟨b18, r182⟩, hH, hV⟩ := id hR
  refine ⟨rfl, ?_⟩
  refine EE.runN (stop := noStop) 80 _ ?_
  refine ⟨by simp only [wI_1, wI_w, b1, r10, r11, r12, r13, r14, b18, r182, hH.1, hV.1] <;> first | rfl | decide, trivial, ?_⟩
  exact ⟨⟨Nat.zero_le _, Nat.zero_le _⟩, rfl, rfl⟩
