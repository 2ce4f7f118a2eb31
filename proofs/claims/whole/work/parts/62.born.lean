/-! THE BEGINNING: what both objects hold when they are new -/
def tv0 (R W S : Int) (k : Nat) : Int := match k with
  | 1 => R
  | 2 => W
  | 3 => S
  | _ => 0
def kx0 : ZMem := fun i k => match i with
  | 0 => (match k with
    | 0 => 6
    | 1 => 4
    | 2 => 120
    | 3 => 30
    | _ => 0)
  | 1 => tv0 8 7 0 k
  | 3 => tv0 5 2 0 k
  | 5 => tv0 6 5 0 k
  | 7 => tv0 3 1 3 k
  | 9 => tv0 5 1 0 k
  | 11 => tv0 4 5 0 k
  | _ => 0
def xz0 : ZMem := fun i k => if i < 1 then 0 else if i < 14 then kx0 (i - 1) k else if i < 27 then kx0 (i - 14) k else if i < 40 then kx0 (i - 27) k else match i with
  | 41 => tv0 96 1 0 k
  | 43 => tv0 5 1 0 k
  | 45 => tv0 8 1 0 k
  | 47 => tv0 8 1 0 k
  | 49 => tv0 7 1 7 k
  | 52 => tv0 100 1 0 k
  | 55 => tv0 2197 1 0 k
  | 57 => tv0 2197 2 0 k
  | 60 => tv0 201 1 0 k
  | 63 => tv0 3 1 0 k
  | _ => 0
def mz0 : ZMem := fun i k => match i with
  | 0 => (match k with
    | 0 => 6
    | 1 => 4
    | 5 => 120
    | 6 => 30
    | _ => 0)
  | _ => 0
theorem tb0 {t R W : Nat} {S : Int} (h : ∀ k, xz0 t k = tv0 R W S k) (h1 : 0 ≤ S ∧ S ≤ R) (h2 : zlen LX (t + 1) = ((R * W : Nat) : Int)) (h3 : R * W ≤ 5000 ∧ 1 ≤ W ∧ R ≤ 2200 ∧ W ≤ 7) : TB xz0 t R W := by
  refine ⟨h 1, h 2, ?_, h2, h3⟩
  rw [h 3]
  exact h1
theorem lt0 {p : Nat} (h : (p : Int) < 0) : False := by omega
theorem wf0 : WFs mz0 := by
  refine ⟨by decide, by decide, by decide, by decide, by decide, by decide, by decide, by decide, by decide, ?_, ?_, ?_, ?_, ?_, ?_⟩
  · exact fun p h => (lt0 h).elim
  · exact fun p h => (lt0 h).elim
  · exact fun p h => (lt0 h).elim
  · exact fun k _ => ⟨by show (0 : Int) ≤ 0; decide, by show (0 : Int) ≤ 12; decide⟩
  · exact fun p h => (lt0 h).elim
  · exact fun p h => (lt0 h).elim
theorem tbk {k : Nat} (hk : k = 1 ∨ k = 14 ∨ k = 27) : TB xz0 (k + 1) 8 7 ∧ TB xz0 (k + 3) 5 2 ∧ TB xz0 (k + 5) 6 5 ∧ TB xz0 (k + 7) 3 1 ∧ TB xz0 (k + 9) 5 1 ∧ TB xz0 (k + 11) 4 5 := by
  rcases hk with rfl | rfl | rfl <;> exact ⟨tb0 (S := 0) (fun _ => rfl) (by decide) rfl (by decide), tb0 (S := 0) (fun _ => rfl) (by decide) rfl (by decide), tb0 (S := 0) (fun _ => rfl) (by decide) rfl (by decide), tb0 (S := 3) (fun _ => rfl) (by decide) rfl (by decide), tb0 (S := 0) (fun _ => rfl) (by decide) rfl (by decide), tb0 (S := 0) (fun _ => rfl) (by decide) rfl (by decide)⟩
theorem xk0 : XK xz0 1 mz0 := by
  refine ⟨⟨rfl, rfl, rfl, rfl⟩, tbk (Or.inl rfl), ⟨rfl, rfl, rfl, rfl, rfl, rfl⟩, ?_, ?_, ?_, ?_, ?_, ?_⟩
  · exact fun p h => (lt0 h).elim
  · exact fun p h => (lt0 h).elim
  · exact fun p h => (lt0 h).elim
  · exact fun c _ => rfl
  · exact fun p h => (lt0 h).elim
  · exact fun p h => (lt0 h).elim
theorem cp0 : CP 0 xz0 mz0 := by
  refine ⟨⟨xk0, wf0⟩, Or.inl ⟨rfl, rfl⟩, ⟨?_, ?_⟩, ?_, ?_, ?_, ?_, ?_⟩
  · exact tbk (Or.inr (Or.inl rfl))
  · exact tbk (Or.inr (Or.inr rfl))
  · exact ⟨tb0 (S := 0) (fun _ => rfl) (by decide) rfl (by decide), rfl, fun p h => (lt0 h).elim⟩
  · exact ⟨tb0 (S := 0) (fun _ => rfl) (by decide) rfl (by decide), rfl, fun p h => (lt0 h).elim⟩
  · exact ⟨tb0 (S := 0) (fun _ => rfl) (by decide) rfl (by decide), rfl, fun p h => (lt0 h).elim⟩
  · exact ⟨tb0 (S := 7) (fun _ => rfl) (by decide) rfl (by decide), rfl, fun k _ _ => ⟨rfl, by show (0 : Int) ≤ 0 ∧ (0 : Int) ≤ 0; decide⟩⟩
  · exact ⟨tb0 (S := 0) (fun _ => rfl) (by decide) rfl (by decide), tb0 (S := 0) (fun _ => rfl) (by decide) rfl (by decide), tb0 (S := 0) (fun _ => rfl) (by decide) rfl (by decide), tb0 (S := 0) (fun _ => rfl) (by decide) rfl (by decide), tb0 (S := 0) (fun _ => rfl) (by decide) rfl (by decide), tb0 (S := 0) (fun _ => rfl) (by decide) rfl (by decide)⟩
