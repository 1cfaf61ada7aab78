theorem thrE1 {n : Nat} (h : thr eIO n) : n = 1 := by rcases h with ⟨h, -⟩ | ⟨-, h⟩ | ⟨-, h⟩ <;> first | exact h | exact absurd h (by decide)
theorem thrE2 {n : Nat} (h : thr eIA n) : n = 2 := by rcases h with ⟨-, h⟩ | ⟨h, -⟩ | ⟨-, h⟩ <;> first | exact h | exact absurd h (by decide)
theorem thrE3 {n : Nat} (h : thr eIS n) : n = 3 := by rcases h with ⟨-, h⟩ | ⟨-, h⟩ | ⟨h, -⟩ <;> first | exact h | exact absurd h (by decide)
set_option maxRecDepth 100000 in
theorem v_community {g : zGh} {mo : Nat} {mad : Nat → Nat} {o x : Nat} {K : zK} {S : zS} {f : Nat → Int64} {ad : zg → Nat} {M : zM}  (hL : zLw g mo mad o x K S f ad M) (hok : zOK K S) : zCw g yL_community cL_community 3 [(0, 8, 11, 13)] 8 191 [.ref x, .ref o] M 40 200 (zPst g mo mad o x S M (x_community K) [3] (newC K (nI (K.1 1))) ((nI (K.1 2)).toInt64)) := by
  obtain ⟨hp, h14, h15, h16, rfl⟩ := hL
  have h0 := K_community  hp hok.1.1 hok.1.2.2.1
  refine zCw.post (w_community (f := f) (o := o) h0 hp.main ?_ ?_) ?_
  · intro v M1 hP
    obtain ⟨-, -, ad1, hP1, ht⟩ := hP
    rw [← h16, ← (ht (16, 0) (by decide))]
    exact zPic.at hP1 ((kva_ge (by decide)).trans X0_out)
  · intro E M1 hE
    obtain ⟨⟨h, rfl⟩ | ⟨h, rfl⟩ | ⟨h, rfl⟩, -⟩ := hE
    · exact absurd h (by unfold x_community; (repeat' split) <;> simp)
    · exact absurd h (by unfold x_community; (repeat' split) <;> simp)
    · exact rfl
  · intro w M2 hw
    rcases hw with ⟨rfl, v, M1, hP, rfl⟩ | ⟨rfl, hE, rfl⟩
    · obtain ⟨hx0, hv, ad1, hP1, ht⟩ := hP
      have hL1 : zLw g mo mad o (ad (0, 0)) (newC K (nI (K.1 1))) S f ad1 M1 := ⟨hP1, ⟨(ht (14, 0) (by decide)).trans h14, fun j => (ht (15, j) (Or.inr (Nat.le_succ 14))).trans (h15 j), (ht (16, 0) (by decide)).trans h16, ht (0, 0) (by decide)⟩⟩
      exact Or.inl ⟨rfl, hx0, _, ad1, hL1.put _, by simp [vp_updL, hv]⟩
    · exact Or.inr ⟨0, 3, rfl, by decide, rfl, thrE3 hE, rfl⟩
set_option maxRecDepth 100000 in
theorem v_recognise {g : zGh} {mo : Nat} {mad : Nat → Nat} {o x : Nat} {K : zK} {S : zS} {f : Nat → Int64} {ad : zg → Nat} {M : zM} (a0 : Int32) (a1 : Bool) (hL : zLw g mo mad o x K S f ad M) (hok : zOK K S) : zCw g yL_recognise cL_recognise 5 [(0, 17, 20, 19)] 8 135 [.ref x, .int a0, .int (b2i a1), .ref o] M 10 4200 (zPst g mo mad o x S M (x_recognise K a0) [1] (k_recognise K a0 a1) (if b2i (a_recognise K a0) = 0 then 0 else 1)) := by
  obtain ⟨hp, h14, h15, h16, rfl⟩ := hL
  have h0 := K_recognise a0 a1 hp hok.1.1 hok.1.2.1
  refine zCw.post (w_recognise (f := f) (o := o) h0 hp.main ?_ ?_) ?_
  · intro v M1 hP
    obtain ⟨-, -, ad1, hP1, ht⟩ := hP
    rw [← h16, ← (ht (16, 0) (by decide) (by decide))]
    exact zPic.at hP1 ((kva_ge (by decide)).trans X0_out)
  · intro E M1 hE
    obtain ⟨⟨h, rfl⟩ | ⟨h, rfl⟩ | ⟨h, rfl⟩, -⟩ := hE
    · exact rfl
    · exact absurd h (by unfold x_recognise; (repeat' split) <;> simp)
    · exact absurd h (by unfold x_recognise; (repeat' split) <;> simp)
  · intro w M2 hw
    rcases hw with ⟨rfl, v, M1, hP, rfl⟩ | ⟨rfl, hE, rfl⟩
    · obtain ⟨hx0, hv, ad1, hP1, ht⟩ := hP
      have hL1 : zLw g mo mad o (ad (0, 0)) (k_recognise K a0 a1) S f ad1 M1 := ⟨hP1, ⟨(ht (14, 0) (by decide) (by decide)).trans h14, fun j => (ht (15, j) (fun h => by cases h) (fun h => by cases h)).trans (h15 j), (ht (16, 0) (by decide) (by decide)).trans h16, ht (0, 0) (by decide) (by decide)⟩⟩
      exact Or.inl ⟨rfl, hx0, _, ad1, hL1.put _, by simp [vp_updL, hv]⟩
    · exact Or.inr ⟨0, 1, rfl, by decide, rfl, thrE1 hE, rfl⟩
set_option maxRecDepth 100000 in
theorem v_decree {g : zGh} {mo : Nat} {mad : Nat → Nat} {o x : Nat} {K : zK} {S : zS} {f : Nat → Int64} {ad : zg → Nat} {M : zM} (a0 : Int32) (a1 : Int32) (a2 : Int32) (hL : zLw g mo mad o x K S f ad M) (hok : zOK K S) : zCw g yL_decree cL_decree 6 [(0, 12, 15, 19), (0, 12, 19, 25), (0, 12, 23, 13)] 9 157 [.ref x, .int a0, .int a1, .int a2, .ref o] M 10 4200 (zPst g mo mad o x S M (x_decree K a0 a1 a2) [1, 2, 3] (k_decree K a0 a1 a2) ((lawK K (lixN a0) a1.toNatClampNeg (nI (K.1 1))).toInt64)) := by
  obtain ⟨hp, h14, h15, h16, rfl⟩ := hL
  have h0 := K_decree a0 a1 a2 hp hok.1.1 hok.1.2.1
  refine zCw.post (w_decree (f := f) (o := o) h0 hp.main ?_ ?_) ?_
  · intro v M1 hP
    obtain ⟨-, -, ad1, hP1, ht⟩ := hP
    rw [← h16, ← (ht (16, 0) (by decide) (by decide))]
    exact zPic.at hP1 ((kva_ge (by decide)).trans X0_out)
  · intro E M1 hE
    obtain ⟨⟨h, rfl⟩ | ⟨h, rfl⟩ | ⟨h, rfl⟩, -⟩ := hE
    · exact Or.inl rfl
    · exact Or.inr (Or.inl rfl)
    · exact Or.inr (Or.inr rfl)
  · intro w M2 hw
    rcases hw with ⟨rfl, v, M1, hP, rfl⟩ | ⟨rfl, hE, rfl⟩ | ⟨rfl, hE, rfl⟩ | ⟨rfl, hE, rfl⟩
    · obtain ⟨hx0, hv, ad1, hP1, ht⟩ := hP
      have hL1 : zLw g mo mad o (ad (0, 0)) (k_decree K a0 a1 a2) S f ad1 M1 := ⟨hP1, ⟨(ht (14, 0) (by decide) (by decide)).trans h14, fun j => (ht (15, j) (fun h => by cases h) (fun h => by cases h)).trans (h15 j), (ht (16, 0) (by decide) (by decide)).trans h16, ht (0, 0) (by decide) (by decide)⟩⟩
      exact Or.inl ⟨rfl, hx0, _, ad1, hL1.put _, by simp [vp_updL, hv]⟩
    · exact Or.inr ⟨0, 1, rfl, by decide, rfl, thrE1 hE, rfl⟩
    · exact Or.inr ⟨1, 2, rfl, by decide, rfl, thrE2 hE, rfl⟩
    · exact Or.inr ⟨2, 3, rfl, by decide, rfl, thrE3 hE, rfl⟩
set_option maxRecDepth 100000 in
theorem v_rule {g : zGh} {mo : Nat} {mad : Nat → Nat} {o x : Nat} {K : zK} {S : zS} {f : Nat → Int64} {ad : zg → Nat} {M : zM} (a0 : Int32) (a1 : Int32) (hL : zLw g mo mad o x K S f ad M) (hok : zOK K S) : zCw g yL_rule cL_rule 5 [(0, 10, 13, 25), (0, 10, 17, 13)] 8 135 [.ref x, .int a0, .int a1, .ref o] M 10 4200 (zPst g mo mad o x S M (x_rule K a0 a1) [2, 3] (k_rule K a0 a1) ((chN (kch K a0.toNatClampNeg)).toInt64)) := by
  obtain ⟨hp, h14, h15, h16, rfl⟩ := hL
  have h0 := K_rule a0 a1 hp hok.1.1 hok.1.2.1
  refine zCw.post (w_rule (f := f) (o := o) h0 hp.main ?_ ?_) ?_
  · intro v M1 hP
    obtain ⟨-, -, ad1, hP1, ht⟩ := hP
    rw [← h16, ← (ht (16, 0) (by decide) (by decide))]
    exact zPic.at hP1 ((kva_ge (by decide)).trans X0_out)
  · intro E M1 hE
    obtain ⟨⟨h, rfl⟩ | ⟨h, rfl⟩ | ⟨h, rfl⟩, -⟩ := hE
    · exact absurd h (by unfold x_rule; (repeat' split) <;> simp)
    · exact Or.inl rfl
    · exact Or.inr rfl
  · intro w M2 hw
    rcases hw with ⟨rfl, v, M1, hP, rfl⟩ | ⟨rfl, hE, rfl⟩ | ⟨rfl, hE, rfl⟩
    · obtain ⟨hx0, hv, ad1, hP1, ht⟩ := hP
      have hL1 : zLw g mo mad o (ad (0, 0)) (k_rule K a0 a1) S f ad1 M1 := ⟨hP1, ⟨(ht (14, 0) (by decide) (by decide)).trans h14, fun j => (ht (15, j) (fun h => by cases h) (fun h => by cases h)).trans (h15 j), (ht (16, 0) (by decide) (by decide)).trans h16, ht (0, 0) (by decide) (by decide)⟩⟩
      exact Or.inl ⟨rfl, hx0, _, ad1, hL1.put _, by simp [vp_updL, hv]⟩
    · exact Or.inr ⟨0, 2, rfl, by decide, rfl, thrE2 hE, rfl⟩
    · exact Or.inr ⟨1, 3, rfl, by decide, rfl, thrE3 hE, rfl⟩
set_option maxRecDepth 100000 in
theorem v_law {g : zGh} {mo : Nat} {mad : Nat → Nat} {o x : Nat} {K : zK} {S : zS} {f : Nat → Int64} {ad : zg → Nat} {M : zM} (a0 : Int32) (a1 : Int32) (a2 : Int32) (hL : zLw g mo mad o x K S f ad M) (hok : zOK K S) : zCw g yL_law cL_law 6 [(0, 12, 15, 19), (0, 12, 19, 25)] 9 156 [.ref x, .int a0, .int a1, .int a2, .ref o] M 8 48 (zPst g mo mad o x S M (x_law K a0 a1 a2) [1, 2] (K) ((a_law K a0 a1 a2).toInt64)) := by
  obtain ⟨hp, h14, h15, h16, rfl⟩ := hL
  have h0 := K_law a0 a1 a2 hp hok.1.1
  refine zCw.post (w_law (f := f) (o := o) h0 hp.main ?_ ?_) ?_
  · intro v M1 hP
    obtain ⟨-, -, rfl⟩ := hP
    rw [← h16]
    exact zPic.at hp ((kva_ge (by decide)).trans X0_out)
  · intro E M1 hE
    obtain ⟨⟨h, rfl⟩ | ⟨h, rfl⟩ | ⟨h, rfl⟩, -⟩ := hE
    · exact Or.inl rfl
    · exact Or.inr rfl
    · exact absurd h (by unfold x_law; (repeat' split) <;> simp)
  · intro w M2 hw
    rcases hw with ⟨rfl, v, M1, hP, rfl⟩ | ⟨rfl, hE, rfl⟩ | ⟨rfl, hE, rfl⟩
    · obtain ⟨hx0, hv, rfl⟩ := hP
      have hL1 : zLw g mo mad o (ad (0, 0)) (K) S f ad M1 := ⟨hp, ⟨h14, h15, h16, rfl⟩⟩
      exact Or.inl ⟨rfl, hx0, _, ad, hL1.put _, by simp [vp_updL, hv]⟩
    · exact Or.inr ⟨0, 1, rfl, by decide, rfl, thrE1 hE, rfl⟩
    · exact Or.inr ⟨1, 2, rfl, by decide, rfl, thrE2 hE, rfl⟩
set_option maxRecDepth 100000 in
theorem v_court {g : zGh} {mo : Nat} {mad : Nat → Nat} {o x : Nat} {K : zK} {S : zS} {f : Nat → Int64} {ad : zg → Nat} {M : zM} (a0 : Int32) (a1 : Int32) (a2 : Int32) (a3 : Int32) (hL : zLw g mo mad o x K S f ad M) (hok : zOK K S) : zCw g yL_court cL_court 7 [(0, 14, 17, 19), (0, 14, 21, 25)] 9 162 [.ref x, .int a0, .int a1, .int a2, .int a3, .ref o] M 8 48 (zPst g mo mad o x S M (x_court K a0 a1 a2 a3) [1, 2] (K) ((a_court K a0 a1 a2 a3).toInt64)) := by
  obtain ⟨hp, h14, h15, h16, rfl⟩ := hL
  have h0 := K_court a0 a1 a2 a3 hp hok.1.1
  refine zCw.post (w_court (f := f) (o := o) h0 hp.main ?_ ?_) ?_
  · intro v M1 hP
    obtain ⟨-, -, rfl⟩ := hP
    rw [← h16]
    exact zPic.at hp ((kva_ge (by decide)).trans X0_out)
  · intro E M1 hE
    obtain ⟨⟨h, rfl⟩ | ⟨h, rfl⟩ | ⟨h, rfl⟩, -⟩ := hE
    · exact Or.inl rfl
    · exact Or.inr rfl
    · exact absurd h (by unfold x_court; (repeat' split) <;> simp)
  · intro w M2 hw
    rcases hw with ⟨rfl, v, M1, hP, rfl⟩ | ⟨rfl, hE, rfl⟩ | ⟨rfl, hE, rfl⟩
    · obtain ⟨hx0, hv, rfl⟩ := hP
      have hL1 : zLw g mo mad o (ad (0, 0)) (K) S f ad M1 := ⟨hp, ⟨h14, h15, h16, rfl⟩⟩
      exact Or.inl ⟨rfl, hx0, _, ad, hL1.put _, by simp [vp_updL, hv]⟩
    · exact Or.inr ⟨0, 1, rfl, by decide, rfl, thrE1 hE, rfl⟩
    · exact Or.inr ⟨1, 2, rfl, by decide, rfl, thrE2 hE, rfl⟩
set_option maxRecDepth 100000 in
theorem v_person {g : zGh} {mo : Nat} {mad : Nat → Nat} {o x : Nat} {K : zK} {S : zS} {f : Nat → Int64} {ad : zg → Nat} {M : zM} (a0 : Bool) (a1 : Int32) (a2 : Int32) (a3 : Int32) (hL : zLw g mo mad o x K S f ad M) (hok : zOK K S) : zCw g yL_person cL_person 7 [(0, 14, 17, 19), (0, 14, 21, 25), (0, 14, 25, 13)] 9 200 [.ref x, .int (b2i a0), .int a1, .int a2, .int a3, .ref o] M 12 160 (zPst g mo mad o x S M (x_person K a1 a2 a3) [1, 2, 3] (k_person K a0 a1 a2 a3) ((nI (K.1 13)).toInt64)) := by
  obtain ⟨hp, h14, h15, h16, rfl⟩ := hL
  have h0 := K_person a0 a1 a2 a3 hp hok.1.1 hok.1.2.2.1
  refine zCw.post (w_person (f := f) (o := o) h0 hp.main ?_ ?_) ?_
  · intro v M1 hP
    obtain ⟨-, -, ad1, hP1, ht⟩ := hP
    rw [← h16, ← (ht (16, 0) (by decide))]
    exact zPic.at hP1 ((kva_ge (by decide)).trans X0_out)
  · intro E M1 hE
    obtain ⟨⟨h, rfl⟩ | ⟨h, rfl⟩ | ⟨h, rfl⟩, -⟩ := hE
    · exact Or.inl rfl
    · exact Or.inr (Or.inl rfl)
    · exact Or.inr (Or.inr rfl)
  · intro w M2 hw
    rcases hw with ⟨rfl, v, M1, hP, rfl⟩ | ⟨rfl, hE, rfl⟩ | ⟨rfl, hE, rfl⟩ | ⟨rfl, hE, rfl⟩
    · obtain ⟨hx0, hv, ad1, hP1, ht⟩ := hP
      have hL1 : zLw g mo mad o (ad (0, 0)) (k_person K a0 a1 a2 a3) S f ad1 M1 := ⟨hP1, ⟨(ht (14, 0) (by decide)).trans h14, fun j => (ht (15, j) (Or.inr (Nat.le_succ 14))).trans (h15 j), (ht (16, 0) (by decide)).trans h16, ht (0, 0) (by decide)⟩⟩
      exact Or.inl ⟨rfl, hx0, _, ad1, hL1.put _, by simp [vp_updL, hv]⟩
    · exact Or.inr ⟨0, 1, rfl, by decide, rfl, thrE1 hE, rfl⟩
    · exact Or.inr ⟨1, 2, rfl, by decide, rfl, thrE2 hE, rfl⟩
    · exact Or.inr ⟨2, 3, rfl, by decide, rfl, thrE3 hE, rfl⟩
set_option maxRecDepth 100000 in
theorem v_turn {g : zGh} {mo : Nat} {mad : Nat → Nat} {o x : Nat} {K : zK} {S : zS} {f : Nat → Int64} {ad : zg → Nat} {M : zM} (a0 : Int32) (a1 : Int32) (a2 : Int32) (a3 : Int32) (hL : zLw g mo mad o x K S f ad M) (hok : zOK K S) : zCw g yL_turn cL_turn 7 [(0, 14, 17, 19), (0, 14, 21, 25), (0, 14, 25, 13)] 8 138 [.ref x, .int a0, .int a1, .int a2, .int a3, .ref o] M 8 48 (zPst g mo mad o x S M (x_turn K a0 a1 a2 a3) [1, 2, 3] (k_turn K a0 a1) ((nI (K.1 1) + 30).toInt64)) := by
  obtain ⟨hp, h14, h15, h16, rfl⟩ := hL
  have h0 := K_turn a0 a1 a2 a3 hp hok.1.1
  refine zCw.post (w_turn (f := f) (o := o) h0 hp.main ?_ ?_) ?_
  · intro v M1 hP
    obtain ⟨-, -, hP1⟩ := hP
    rw [← h16]
    exact zPic.at hP1 ((kva_ge (by decide)).trans X0_out)
  · intro E M1 hE
    obtain ⟨⟨h, rfl⟩ | ⟨h, rfl⟩ | ⟨h, rfl⟩, -⟩ := hE
    · exact Or.inl rfl
    · exact Or.inr (Or.inl rfl)
    · exact Or.inr (Or.inr rfl)
  · intro w M2 hw
    rcases hw with ⟨rfl, v, M1, hP, rfl⟩ | ⟨rfl, hE, rfl⟩ | ⟨rfl, hE, rfl⟩ | ⟨rfl, hE, rfl⟩
    · obtain ⟨hx0, hv, hP1⟩ := hP
      have hL1 : zLw g mo mad o (ad (0, 0)) (k_turn K a0 a1) S f ad M1 := ⟨hP1, ⟨h14, h15, h16, rfl⟩⟩
      exact Or.inl ⟨rfl, hx0, _, ad, hL1.put _, by simp [vp_updL, hv]⟩
    · exact Or.inr ⟨0, 1, rfl, by decide, rfl, thrE1 hE, rfl⟩
    · exact Or.inr ⟨1, 2, rfl, by decide, rfl, thrE2 hE, rfl⟩
    · exact Or.inr ⟨2, 3, rfl, by decide, rfl, thrE3 hE, rfl⟩
set_option maxRecDepth 100000 in
theorem v_recant {g : zGh} {mo : Nat} {mad : Nat → Nat} {o x : Nat} {K : zK} {S : zS} {f : Nat → Int64} {ad : zg → Nat} {M : zM} (a0 : Int32) (hL : zLw g mo mad o x K S f ad M) (hok : zOK K S) : zCw g yL_recant cL_recant 4 [(0, 9, 12, 19), (0, 9, 15, 13)] 8 134 [.ref x, .int a0, .ref o] M 8 48 (zPst g mo mad o x S M (x_recant K a0) [1, 3] (k_recant K a0) ((kpe K a0.toNatClampNeg).2.2.2.2.2.2.1.toInt64)) := by
  obtain ⟨hp, h14, h15, h16, rfl⟩ := hL
  have h0 := K_recant a0 hp hok.1.1
  refine zCw.post (w_recant (f := f) (o := o) h0 hp.main ?_ ?_) ?_
  · intro v M1 hP
    obtain ⟨-, -, hP1⟩ := hP
    rw [← h16]
    exact zPic.at hP1 ((kva_ge (by decide)).trans X0_out)
  · intro E M1 hE
    obtain ⟨⟨h, rfl⟩ | ⟨h, rfl⟩ | ⟨h, rfl⟩, -⟩ := hE
    · exact Or.inl rfl
    · exact absurd h (by unfold x_recant; (repeat' split) <;> simp)
    · exact Or.inr rfl
  · intro w M2 hw
    rcases hw with ⟨rfl, v, M1, hP, rfl⟩ | ⟨rfl, hE, rfl⟩ | ⟨rfl, hE, rfl⟩
    · obtain ⟨hx0, hv, hP1⟩ := hP
      have hL1 : zLw g mo mad o (ad (0, 0)) (k_recant K a0) S f ad M1 := ⟨hP1, ⟨h14, h15, h16, rfl⟩⟩
      exact Or.inl ⟨rfl, hx0, _, ad, hL1.put _, by simp [vp_updL, hv]⟩
    · exact Or.inr ⟨0, 1, rfl, by decide, rfl, thrE1 hE, rfl⟩
    · exact Or.inr ⟨1, 3, rfl, by decide, rfl, thrE3 hE, rfl⟩
set_option maxRecDepth 100000 in
theorem v_faith {g : zGh} {mo : Nat} {mad : Nat → Nat} {o x : Nat} {K : zK} {S : zS} {f : Nat → Int64} {ad : zg → Nat} {M : zM} (a0 : Int32) (a1 : Int32) (hL : zLw g mo mad o x K S f ad M) (hok : zOK K S) : zCw g yL_faith cL_faith 5 [(0, 10, 13, 19), (0, 10, 17, 25)] 8 135 [.ref x, .int a0, .int a1, .ref o] M 8 48 (zPst g mo mad o x S M (x_faith K a0 a1) [1, 2] (K) ((a_faith K a0 a1).toInt64)) := by
  obtain ⟨hp, h14, h15, h16, rfl⟩ := hL
  have h0 := K_faith a0 a1 hp hok.1.1
  refine zCw.post (w_faith (f := f) (o := o) h0 hp.main ?_ ?_) ?_
  · intro v M1 hP
    obtain ⟨-, -, rfl⟩ := hP
    rw [← h16]
    exact zPic.at hp ((kva_ge (by decide)).trans X0_out)
  · intro E M1 hE
    obtain ⟨⟨h, rfl⟩ | ⟨h, rfl⟩ | ⟨h, rfl⟩, -⟩ := hE
    · exact Or.inl rfl
    · exact Or.inr rfl
    · exact absurd h (by unfold x_faith; (repeat' split) <;> simp)
  · intro w M2 hw
    rcases hw with ⟨rfl, v, M1, hP, rfl⟩ | ⟨rfl, hE, rfl⟩ | ⟨rfl, hE, rfl⟩
    · obtain ⟨hx0, hv, rfl⟩ := hP
      have hL1 : zLw g mo mad o (ad (0, 0)) (K) S f ad M1 := ⟨hp, ⟨h14, h15, h16, rfl⟩⟩
      exact Or.inl ⟨rfl, hx0, _, ad, hL1.put _, by simp [vp_updL, hv]⟩
    · exact Or.inr ⟨0, 1, rfl, by decide, rfl, thrE1 hE, rfl⟩
    · exact Or.inr ⟨1, 2, rfl, by decide, rfl, thrE2 hE, rfl⟩
set_option maxRecDepth 100000 in
theorem v_marry {g : zGh} {mo : Nat} {mad : Nat → Nat} {o x : Nat} {K : zK} {S : zS} {f : Nat → Int64} {ad : zg → Nat} {M : zM} (a0 : Int32) (a1 : Int32) (a2 : Int32) (hL : zLw g mo mad o x K S f ad M) (hok : zOK K S) : zCw g yL_marry cL_marry 6 [(0, 12, 15, 19), (0, 12, 19, 25), (0, 12, 23, 13)] 9 197 [.ref x, .int a0, .int a1, .int a2, .ref o] M 12 160 (zPst g mo mad o x S M (x_marry K a0 a1 a2) [1, 2, 3] (k_marry K a0 a1 a2) ((nI (K.1 25)).toInt64)) := by
  obtain ⟨hp, h14, h15, h16, rfl⟩ := hL
  have h0 := K_marry a0 a1 a2 hp hok.1.1 hok.1.2.2.1
  refine zCw.post (w_marry (f := f) (o := o) h0 hp.main ?_ ?_) ?_
  · intro v M1 hP
    obtain ⟨-, -, ad1, hP1, ht⟩ := hP
    rw [← h16, ← (ht (16, 0) (by decide))]
    exact zPic.at hP1 ((kva_ge (by decide)).trans X0_out)
  · intro E M1 hE
    obtain ⟨⟨h, rfl⟩ | ⟨h, rfl⟩ | ⟨h, rfl⟩, -⟩ := hE
    · exact Or.inl rfl
    · exact Or.inr (Or.inl rfl)
    · exact Or.inr (Or.inr rfl)
  · intro w M2 hw
    rcases hw with ⟨rfl, v, M1, hP, rfl⟩ | ⟨rfl, hE, rfl⟩ | ⟨rfl, hE, rfl⟩ | ⟨rfl, hE, rfl⟩
    · obtain ⟨hx0, hv, ad1, hP1, ht⟩ := hP
      have hL1 : zLw g mo mad o (ad (0, 0)) (k_marry K a0 a1 a2) S f ad1 M1 := ⟨hP1, ⟨(ht (14, 0) (by decide)).trans h14, fun j => (ht (15, j) (Or.inr (Nat.le_succ 14))).trans (h15 j), (ht (16, 0) (by decide)).trans h16, ht (0, 0) (by decide)⟩⟩
      exact Or.inl ⟨rfl, hx0, _, ad1, hL1.put _, by simp [vp_updL, hv]⟩
    · exact Or.inr ⟨0, 1, rfl, by decide, rfl, thrE1 hE, rfl⟩
    · exact Or.inr ⟨1, 2, rfl, by decide, rfl, thrE2 hE, rfl⟩
    · exact Or.inr ⟨2, 3, rfl, by decide, rfl, thrE3 hE, rfl⟩
set_option maxRecDepth 100000 in
theorem v_divorce {g : zGh} {mo : Nat} {mad : Nat → Nat} {o x : Nat} {K : zK} {S : zS} {f : Nat → Int64} {ad : zg → Nat} {M : zM} (a0 : Int32) (a1 : Bool) (hL : zLw g mo mad o x K S f ad M) (hok : zOK K S) : zCw g yL_divorce cL_divorce 5 [(0, 17, 20, 19), (0, 17, 24, 13)] 9 160 [.ref x, .int a0, .int (b2i a1), .ref o] M 8 48 (zPst g mo mad o x S M (x_divorce K a0) [1, 3] (k_divorce K a0 a1) (if b2i (dvE K a0.toNatClampNeg a1) = 0 then 0 else 1)) := by
  obtain ⟨hp, h14, h15, h16, rfl⟩ := hL
  have h0 := K_divorce a0 a1 hp hok.1.1
  refine zCw.post (w_divorce (f := f) (o := o) h0 hp.main ?_ ?_) ?_
  · intro v M1 hP
    obtain ⟨-, -, hP1⟩ := hP
    rw [← h16]
    exact zPic.at hP1 ((kva_ge (by decide)).trans X0_out)
  · intro E M1 hE
    obtain ⟨⟨h, rfl⟩ | ⟨h, rfl⟩ | ⟨h, rfl⟩, -⟩ := hE
    · exact Or.inl rfl
    · exact absurd h (by unfold x_divorce; (repeat' split) <;> simp)
    · exact Or.inr rfl
  · intro w M2 hw
    rcases hw with ⟨rfl, v, M1, hP, rfl⟩ | ⟨rfl, hE, rfl⟩ | ⟨rfl, hE, rfl⟩
    · obtain ⟨hx0, hv, hP1⟩ := hP
      have hL1 : zLw g mo mad o (ad (0, 0)) (k_divorce K a0 a1) S f ad M1 := ⟨hP1, ⟨h14, h15, h16, rfl⟩⟩
      exact Or.inl ⟨rfl, hx0, _, ad, hL1.put _, by simp [vp_updL, hv]⟩
    · exact Or.inr ⟨0, 1, rfl, by decide, rfl, thrE1 hE, rfl⟩
    · exact Or.inr ⟨1, 3, rfl, by decide, rfl, thrE3 hE, rfl⟩
set_option maxRecDepth 100000 in
theorem v_goods {g : zGh} {mo : Nat} {mad : Nat → Nat} {o x : Nat} {K : zK} {S : zS} {f : Nat → Int64} {ad : zg → Nat} {M : zM} (a0 : Int32) (a1 : Int32) (hL : zLw g mo mad o x K S f ad M) (hok : zOK K S) : zCw g yL_goods cL_goods 5 [(0, 9, 12, 19), (0, 9, 16, 25), (0, 9, 20, 13)] 8 135 [.ref x, .int a0, .int a1, .ref o] M 8 48 (zPst g mo mad o x S M (x_goods K a0 a1) [1, 2, 3] (k_goods K a0 a1) ((kpe K a0.toNatClampNeg).2.2.2.2.2.1 + a1.toInt64)) := by
  obtain ⟨hp, h14, h15, h16, rfl⟩ := hL
  have h0 := K_goods a0 a1 hp hok.1.1
  refine zCw.post (w_goods (f := f) (o := o) h0 hp.main ?_ ?_) ?_
  · intro v M1 hP
    obtain ⟨-, -, hP1⟩ := hP
    rw [← h16]
    exact zPic.at hP1 ((kva_ge (by decide)).trans X0_out)
  · intro E M1 hE
    obtain ⟨⟨h, rfl⟩ | ⟨h, rfl⟩ | ⟨h, rfl⟩, -⟩ := hE
    · exact Or.inl rfl
    · exact Or.inr (Or.inl rfl)
    · exact Or.inr (Or.inr rfl)
  · intro w M2 hw
    rcases hw with ⟨rfl, v, M1, hP, rfl⟩ | ⟨rfl, hE, rfl⟩ | ⟨rfl, hE, rfl⟩ | ⟨rfl, hE, rfl⟩
    · obtain ⟨hx0, hv, hP1⟩ := hP
      have hL1 : zLw g mo mad o (ad (0, 0)) (k_goods K a0 a1) S f ad M1 := ⟨hP1, ⟨h14, h15, h16, rfl⟩⟩
      exact Or.inl ⟨rfl, hx0, _, ad, hL1.put _, by simp [vp_updL, hv]⟩
    · exact Or.inr ⟨0, 1, rfl, by decide, rfl, thrE1 hE, rfl⟩
    · exact Or.inr ⟨1, 2, rfl, by decide, rfl, thrE2 hE, rfl⟩
    · exact Or.inr ⟨2, 3, rfl, by decide, rfl, thrE3 hE, rfl⟩
set_option maxRecDepth 100000 in
theorem v_dies {g : zGh} {mo : Nat} {mad : Nat → Nat} {o x : Nat} {K : zK} {S : zS} {f : Nat → Int64} {ad : zg → Nat} {M : zM} (a0 : Int32) (hL : zLw g mo mad o x K S f ad M) (hok : zOK K S) : zCw g yL_dies cL_dies 4 [(0, 8, 11, 19), (0, 8, 14, 13)] 9 220 [.ref x, .int a0, .ref o] M 100 6000 (zPst g mo mad o x S M (x_dies K a0) [1, 3] (k_dies K a0.toNatClampNeg) (a_dies K a0.toNatClampNeg)) := by
  obtain ⟨hp, h14, h15, h16, rfl⟩ := hL
  have h0 := K_dies a0 hp hok.1.1 hok.1.2.2.1
  refine zCw.post (w_dies (f := f) (o := o) h0 hp.main ?_ ?_) ?_
  · intro v M1 hP
    obtain ⟨-, -, ad1, hP1, ht⟩ := hP
    rw [← h16, ← (ht (16, 0) (by decide))]
    exact zPic.at hP1 ((kva_ge (by decide)).trans X0_out)
  · intro E M1 hE
    obtain ⟨⟨h, rfl⟩ | ⟨h, rfl⟩ | ⟨h, rfl⟩, -⟩ := hE
    · exact Or.inl rfl
    · exact absurd h (by unfold x_dies; (repeat' split) <;> simp)
    · exact Or.inr rfl
  · intro w M2 hw
    rcases hw with ⟨rfl, v, M1, hP, rfl⟩ | ⟨rfl, hE, rfl⟩ | ⟨rfl, hE, rfl⟩
    · obtain ⟨hx0, hv, ad1, hP1, ht⟩ := hP
      have hL1 : zLw g mo mad o (ad (0, 0)) (k_dies K a0.toNatClampNeg) S f ad1 M1 := ⟨hP1, ⟨(ht (14, 0) (by decide)).trans h14, fun j => (ht (15, j) (Or.inr (Nat.le_succ 14))).trans (h15 j), (ht (16, 0) (by decide)).trans h16, ht (0, 0) (by decide)⟩⟩
      exact Or.inl ⟨rfl, hx0, _, ad1, hL1.put _, by simp [vp_updL, hv]⟩
    · exact Or.inr ⟨0, 1, rfl, by decide, rfl, thrE1 hE, rfl⟩
    · exact Or.inr ⟨1, 3, rfl, by decide, rfl, thrE3 hE, rfl⟩
set_option maxRecDepth 100000 in
theorem v_sue {g : zGh} {mo : Nat} {mad : Nat → Nat} {o x : Nat} {K : zK} {S : zS} {f : Nat → Int64} {ad : zg → Nat} {M : zM} (a0 : Int32) (a1 : Int32) (a2 : Int32) (a3 : Int32) (hL : zLw g mo mad o x K S f ad M) (hok : zOK K S) : zCw g yL_sue cL_sue 7 [(0, 14, 17, 19), (0, 14, 21, 25), (0, 14, 25, 13)] 9 198 [.ref x, .int a0, .int a1, .int a2, .int a3, .ref o] M 12 160 (zPst g mo mad o x S M (x_sue K a0 a1 a2 a3) [1, 2, 3] (k_sue K a0 a1 a2 a3) ((nI (K.1 33)).toInt64)) := by
  obtain ⟨hp, h14, h15, h16, rfl⟩ := hL
  have h0 := K_sue a0 a1 a2 a3 hp hok.1.1 hok.1.2.2.1
  refine zCw.post (w_sue (f := f) (o := o) h0 hp.main ?_ ?_) ?_
  · intro v M1 hP
    obtain ⟨-, -, ad1, hP1, ht⟩ := hP
    rw [← h16, ← (ht (16, 0) (by decide))]
    exact zPic.at hP1 ((kva_ge (by decide)).trans X0_out)
  · intro E M1 hE
    obtain ⟨⟨h, rfl⟩ | ⟨h, rfl⟩ | ⟨h, rfl⟩, -⟩ := hE
    · exact Or.inl rfl
    · exact Or.inr (Or.inl rfl)
    · exact Or.inr (Or.inr rfl)
  · intro w M2 hw
    rcases hw with ⟨rfl, v, M1, hP, rfl⟩ | ⟨rfl, hE, rfl⟩ | ⟨rfl, hE, rfl⟩ | ⟨rfl, hE, rfl⟩
    · obtain ⟨hx0, hv, ad1, hP1, ht⟩ := hP
      have hL1 : zLw g mo mad o (ad (0, 0)) (k_sue K a0 a1 a2 a3) S f ad1 M1 := ⟨hP1, ⟨(ht (14, 0) (by decide)).trans h14, fun j => (ht (15, j) (Or.inr (Nat.le_succ 14))).trans (h15 j), (ht (16, 0) (by decide)).trans h16, ht (0, 0) (by decide)⟩⟩
      exact Or.inl ⟨rfl, hx0, _, ad1, hL1.put _, by simp [vp_updL, hv]⟩
    · exact Or.inr ⟨0, 1, rfl, by decide, rfl, thrE1 hE, rfl⟩
    · exact Or.inr ⟨1, 2, rfl, by decide, rfl, thrE2 hE, rfl⟩
    · exact Or.inr ⟨2, 3, rfl, by decide, rfl, thrE3 hE, rfl⟩
set_option maxRecDepth 100000 in
theorem v_appear {g : zGh} {mo : Nat} {mad : Nat → Nat} {o x : Nat} {K : zK} {S : zS} {f : Nat → Int64} {ad : zg → Nat} {M : zM} (a0 : Int32) (hL : zLw g mo mad o x K S f ad M) (hok : zOK K S) : zCw g yL_appear cL_appear 4 [(0, 16, 19, 19), (0, 16, 22, 13)] 8 134 [.ref x, .int a0, .ref o] M 8 48 (zPst g mo mad o x S M (x_appear K a0) [1, 3] (k_appear K a0) (if b2i (!(ksu K a0.toNatClampNeg).2.2.2.2.2.1) = 0 then 0 else 1)) := by
  obtain ⟨hp, h14, h15, h16, rfl⟩ := hL
  have h0 := K_appear a0 hp hok.1.1
  refine zCw.post (w_appear (f := f) (o := o) h0 hp.main ?_ ?_) ?_
  · intro v M1 hP
    obtain ⟨-, -, hP1⟩ := hP
    rw [← h16]
    exact zPic.at hP1 ((kva_ge (by decide)).trans X0_out)
  · intro E M1 hE
    obtain ⟨⟨h, rfl⟩ | ⟨h, rfl⟩ | ⟨h, rfl⟩, -⟩ := hE
    · exact Or.inl rfl
    · exact absurd h (by unfold x_appear; (repeat' split) <;> simp)
    · exact Or.inr rfl
  · intro w M2 hw
    rcases hw with ⟨rfl, v, M1, hP, rfl⟩ | ⟨rfl, hE, rfl⟩ | ⟨rfl, hE, rfl⟩
    · obtain ⟨hx0, hv, hP1⟩ := hP
      have hL1 : zLw g mo mad o (ad (0, 0)) (k_appear K a0) S f ad M1 := ⟨hP1, ⟨h14, h15, h16, rfl⟩⟩
      exact Or.inl ⟨rfl, hx0, _, ad, hL1.put _, by simp [vp_updL, hv]⟩
    · exact Or.inr ⟨0, 1, rfl, by decide, rfl, thrE1 hE, rfl⟩
    · exact Or.inr ⟨1, 3, rfl, by decide, rfl, thrE3 hE, rfl⟩
set_option maxRecDepth 100000 in
theorem v_testify {g : zGh} {mo : Nat} {mad : Nat → Nat} {o x : Nat} {K : zK} {S : zS} {f : Nat → Int64} {ad : zg → Nat} {M : zM} (a0 : Int32) (a1 : Int32) (a2 : Bool) (hL : zLw g mo mad o x K S f ad M) (hok : zOK K S) : zCw g yL_testify cL_testify 6 [(0, 12, 15, 19), (0, 12, 19, 13)] 8 196 [.ref x, .int a0, .int a1, .int (b2i a2), .ref o] M 12 160 (zPst g mo mad o x S M (x_testify K a0 a1) [1, 3] (k_testify K a0 a1 a2) ((nI ((kws K a0.toNatClampNeg).1 + 1)).toInt64)) := by
  obtain ⟨hp, h14, h15, h16, rfl⟩ := hL
  have h0 := K_testify a0 a1 a2 hp hok.1.1 hok.1.2.2.1 (hok.1.2.2.2.2.1 _ _)
  refine zCw.post (w_testify (f := f) (o := o) h0 hp.main ?_ ?_) ?_
  · intro v M1 hP
    obtain ⟨-, -, ad1, hP1, ht⟩ := hP
    rw [← h16, ← (ht (16, 0) (by decide))]
    exact zPic.at hP1 ((kva_ge (by decide)).trans X0_out)
  · intro E M1 hE
    obtain ⟨⟨h, rfl⟩ | ⟨h, rfl⟩ | ⟨h, rfl⟩, -⟩ := hE
    · exact Or.inl rfl
    · exact absurd h (by unfold x_testify; (repeat' split) <;> simp)
    · exact Or.inr rfl
  · intro w M2 hw
    rcases hw with ⟨rfl, v, M1, hP, rfl⟩ | ⟨rfl, hE, rfl⟩ | ⟨rfl, hE, rfl⟩
    · obtain ⟨hx0, hv, ad1, hP1, ht⟩ := hP
      have hL1 : zLw g mo mad o (ad (0, 0)) (k_testify K a0 a1 a2) S f ad1 M1 := ⟨hP1, ⟨(ht (14, 0) (by decide)).trans h14, fun j => (ht (15, j) (Or.inr (Nat.le_succ 14))).trans (h15 j), (ht (16, 0) (by decide)).trans h16, ht (0, 0) (by decide)⟩⟩
      exact Or.inl ⟨rfl, hx0, _, ad1, hL1.put _, by simp [vp_updL, hv]⟩
    · exact Or.inr ⟨0, 1, rfl, by decide, rfl, thrE1 hE, rfl⟩
    · exact Or.inr ⟨1, 3, rfl, by decide, rfl, thrE3 hE, rfl⟩
set_option maxRecDepth 100000 in
theorem v_judge {g : zGh} {mo : Nat} {mad : Nat → Nat} {o x : Nat} {K : zK} {S : zS} {f : Nat → Int64} {ad : zg → Nat} {M : zM} (a0 : Int32) (hL : zLw g mo mad o x K S f ad M) (hok : zOK K S) : zCw g yL_judge cL_judge 4 [(0, 16, 19, 19), (0, 16, 22, 13)] 9 155 [.ref x, .int a0, .ref o] M 8 48 (zPst g mo mad o x S M (x_judge K a0) [1, 3] (k_judge K a0) (if b2i (a_judge K a0) = 0 then 0 else 1)) := by
  obtain ⟨hp, h14, h15, h16, rfl⟩ := hL
  have h0 := K_judge a0 hp hok.1.1
  refine zCw.post (w_judge (f := f) (o := o) h0 hp.main ?_ ?_) ?_
  · intro v M1 hP
    obtain ⟨-, -, hP1⟩ := hP
    rw [← h16]
    exact zPic.at hP1 ((kva_ge (by decide)).trans X0_out)
  · intro E M1 hE
    obtain ⟨⟨h, rfl⟩ | ⟨h, rfl⟩ | ⟨h, rfl⟩, -⟩ := hE
    · exact Or.inl rfl
    · exact absurd h (by unfold x_judge; (repeat' split) <;> simp)
    · exact Or.inr rfl
  · intro w M2 hw
    rcases hw with ⟨rfl, v, M1, hP, rfl⟩ | ⟨rfl, hE, rfl⟩ | ⟨rfl, hE, rfl⟩
    · obtain ⟨hx0, hv, hP1⟩ := hP
      have hL1 : zLw g mo mad o (ad (0, 0)) (k_judge K a0) S f ad M1 := ⟨hP1, ⟨h14, h15, h16, rfl⟩⟩
      exact Or.inl ⟨rfl, hx0, _, ad, hL1.put _, by simp [vp_updL, hv]⟩
    · exact Or.inr ⟨0, 1, rfl, by decide, rfl, thrE1 hE, rfl⟩
    · exact Or.inr ⟨1, 3, rfl, by decide, rfl, thrE3 hE, rfl⟩
set_option maxRecDepth 100000 in
theorem v_appeal {g : zGh} {mo : Nat} {mad : Nat → Nat} {o x : Nat} {K : zK} {S : zS} {f : Nat → Int64} {ad : zg → Nat} {M : zM} (a0 : Int32) (hL : zLw g mo mad o x K S f ad M) (hok : zOK K S) : zCw g yL_appeal cL_appeal 4 [(0, 16, 19, 19), (0, 16, 22, 13)] 8 135 [.ref x, .int a0, .ref o] M 8 48 (zPst g mo mad o x S M (x_appeal K a0) [1, 3] (k_appeal K a0) (if b2i (wonK K a0.toNatClampNeg 0) = 0 then 0 else 1)) := by
  obtain ⟨hp, h14, h15, h16, rfl⟩ := hL
  have h0 := K_appeal a0 hp hok.1.1
  refine zCw.post (w_appeal (f := f) (o := o) h0 hp.main ?_ ?_) ?_
  · intro v M1 hP
    obtain ⟨-, -, hP1⟩ := hP
    rw [← h16]
    exact zPic.at hP1 ((kva_ge (by decide)).trans X0_out)
  · intro E M1 hE
    obtain ⟨⟨h, rfl⟩ | ⟨h, rfl⟩ | ⟨h, rfl⟩, -⟩ := hE
    · exact Or.inl rfl
    · exact absurd h (by unfold x_appeal; (repeat' split) <;> simp)
    · exact Or.inr rfl
  · intro w M2 hw
    rcases hw with ⟨rfl, v, M1, hP, rfl⟩ | ⟨rfl, hE, rfl⟩ | ⟨rfl, hE, rfl⟩
    · obtain ⟨hx0, hv, hP1⟩ := hP
      have hL1 : zLw g mo mad o (ad (0, 0)) (k_appeal K a0) S f ad M1 := ⟨hP1, ⟨h14, h15, h16, rfl⟩⟩
      exact Or.inl ⟨rfl, hx0, _, ad, hL1.put _, by simp [vp_updL, hv]⟩
    · exact Or.inr ⟨0, 1, rfl, by decide, rfl, thrE1 hE, rfl⟩
    · exact Or.inr ⟨1, 3, rfl, by decide, rfl, thrE3 hE, rfl⟩
set_option maxRecDepth 100000 in
theorem v_execute {g : zGh} {mo : Nat} {mad : Nat → Nat} {o x : Nat} {K : zK} {S : zS} {f : Nat → Int64} {ad : zg → Nat} {M : zM} (a0 : Int32) (hL : zLw g mo mad o x K S f ad M) (hok : zOK K S) : zCw g yL_execute cL_execute 4 [(0, 8, 11, 19), (0, 8, 14, 13)] 8 134 [.ref x, .int a0, .ref o] M 8 48 (zPst g mo mad o x S M (x_execute K a0) [1, 3] (k_execute K a0.toNatClampNeg) ((exeA K a0.toNatClampNeg).toInt64)) := by
  obtain ⟨hp, h14, h15, h16, rfl⟩ := hL
  have h0 := K_execute a0 hp hok.1.1
  refine zCw.post (w_execute (f := f) (o := o) h0 hp.main ?_ ?_) ?_
  · intro v M1 hP
    obtain ⟨-, -, hP1⟩ := hP
    rw [← h16]
    exact zPic.at hP1 ((kva_ge (by decide)).trans X0_out)
  · intro E M1 hE
    obtain ⟨⟨h, rfl⟩ | ⟨h, rfl⟩ | ⟨h, rfl⟩, -⟩ := hE
    · exact Or.inl rfl
    · exact absurd h (by unfold x_execute; (repeat' split) <;> simp)
    · exact Or.inr rfl
  · intro w M2 hw
    rcases hw with ⟨rfl, v, M1, hP, rfl⟩ | ⟨rfl, hE, rfl⟩ | ⟨rfl, hE, rfl⟩
    · obtain ⟨hx0, hv, hP1⟩ := hP
      have hL1 : zLw g mo mad o (ad (0, 0)) (k_execute K a0.toNatClampNeg) S f ad M1 := ⟨hP1, ⟨h14, h15, h16, rfl⟩⟩
      exact Or.inl ⟨rfl, hx0, _, ad, hL1.put _, by simp [vp_updL, hv]⟩
    · exact Or.inr ⟨0, 1, rfl, by decide, rfl, thrE1 hE, rfl⟩
    · exact Or.inr ⟨1, 3, rfl, by decide, rfl, thrE3 hE, rfl⟩
set_option maxRecDepth 100000 in
theorem v_wins {g : zGh} {mo : Nat} {mad : Nat → Nat} {o x : Nat} {K : zK} {S : zS} {f : Nat → Int64} {ad : zg → Nat} {M : zM} (a0 : Int32) (a1 : Int32) (hL : zLw g mo mad o x K S f ad M) (hok : zOK K S) : zCw g yL_wins cL_wins 5 [(0, 17, 20, 19)] 9 155 [.ref x, .int a0, .int a1, .ref o] M 8 48 (zPst g mo mad o x S M (x_wins K a0 a1) [1] (K) (if b2i (a_wins K a0 a1) = 0 then 0 else 1)) := by
  obtain ⟨hp, h14, h15, h16, rfl⟩ := hL
  have h0 := K_wins a0 a1 hp hok.1.1
  refine zCw.post (w_wins (f := f) (o := o) h0 hp.main ?_ ?_) ?_
  · intro v M1 hP
    obtain ⟨-, -, rfl⟩ := hP
    rw [← h16]
    exact zPic.at hp ((kva_ge (by decide)).trans X0_out)
  · intro E M1 hE
    obtain ⟨⟨h, rfl⟩ | ⟨h, rfl⟩ | ⟨h, rfl⟩, -⟩ := hE
    · exact rfl
    · exact absurd h (by unfold x_wins; (repeat' split) <;> simp)
    · exact absurd h (by unfold x_wins; (repeat' split) <;> simp)
  · intro w M2 hw
    rcases hw with ⟨rfl, v, M1, hP, rfl⟩ | ⟨rfl, hE, rfl⟩
    · obtain ⟨hx0, hv, rfl⟩ := hP
      have hL1 : zLw g mo mad o (ad (0, 0)) (K) S f ad M1 := ⟨hp, ⟨h14, h15, h16, rfl⟩⟩
      exact Or.inl ⟨rfl, hx0, _, ad, hL1.put _, by simp [vp_updL, hv]⟩
    · exact Or.inr ⟨0, 1, rfl, by decide, rfl, thrE1 hE, rfl⟩
set_option maxRecDepth 100000 in
theorem v_ofPerson {g : zGh} {mo : Nat} {mad : Nat → Nat} {o x : Nat} {K : zK} {S : zS} {f : Nat → Int64} {ad : zg → Nat} {M : zM} (a0 : Int32) (a1 : Int32) (hL : zLw g mo mad o x K S f ad M) (hok : zOK K S) : zCw g yL_ofPerson cL_ofPerson 5 [(0, 9, 12, 19), (0, 9, 16, 25)] 8 134 [.ref x, .int a0, .int a1, .ref o] M 8 48 (zPst g mo mad o x S M (x_of (K.1 13) 5 a0 a1) [1, 2] (K) (a_ofPerson K a0 a1)) := by
  obtain ⟨hp, h14, h15, h16, rfl⟩ := hL
  have h0 := K_ofPerson a0 a1 hp hok.1.1
  refine zCw.post (w_ofPerson (f := f) (o := o) h0 hp.main ?_ ?_) ?_
  · intro v M1 hP
    obtain ⟨-, -, rfl⟩ := hP
    rw [← h16]
    exact zPic.at hp ((kva_ge (by decide)).trans X0_out)
  · intro E M1 hE
    obtain ⟨⟨h, rfl⟩ | ⟨h, rfl⟩ | ⟨h, rfl⟩, -⟩ := hE
    · exact Or.inl rfl
    · exact Or.inr rfl
    · exact absurd h (by unfold x_of; (repeat' split) <;> simp)
  · intro w M2 hw
    rcases hw with ⟨rfl, v, M1, hP, rfl⟩ | ⟨rfl, hE, rfl⟩ | ⟨rfl, hE, rfl⟩
    · obtain ⟨hx0, hv, rfl⟩ := hP
      have hL1 : zLw g mo mad o (ad (0, 0)) (K) S f ad M1 := ⟨hp, ⟨h14, h15, h16, rfl⟩⟩
      exact Or.inl ⟨rfl, hx0, _, ad, hL1.put _, by simp [vp_updL, hv]⟩
    · exact Or.inr ⟨0, 1, rfl, by decide, rfl, thrE1 hE, rfl⟩
    · exact Or.inr ⟨1, 2, rfl, by decide, rfl, thrE2 hE, rfl⟩
set_option maxRecDepth 100000 in
theorem v_ofMarriage {g : zGh} {mo : Nat} {mad : Nat → Nat} {o x : Nat} {K : zK} {S : zS} {f : Nat → Int64} {ad : zg → Nat} {M : zM} (a0 : Int32) (a1 : Int32) (hL : zLw g mo mad o x K S f ad M) (hok : zOK K S) : zCw g yL_ofMarriage cL_ofMarriage 5 [(0, 10, 13, 19), (0, 10, 17, 25)] 8 134 [.ref x, .int a0, .int a1, .ref o] M 8 48 (zPst g mo mad o x S M (x_of (K.1 25) 4 a0 a1) [1, 2] (K) ((a_ofMarriage K a0 a1).toInt64)) := by
  obtain ⟨hp, h14, h15, h16, rfl⟩ := hL
  have h0 := K_ofMarriage a0 a1 hp hok.1.1
  refine zCw.post (w_ofMarriage (f := f) (o := o) h0 hp.main ?_ ?_) ?_
  · intro v M1 hP
    obtain ⟨-, -, rfl⟩ := hP
    rw [← h16]
    exact zPic.at hp ((kva_ge (by decide)).trans X0_out)
  · intro E M1 hE
    obtain ⟨⟨h, rfl⟩ | ⟨h, rfl⟩ | ⟨h, rfl⟩, -⟩ := hE
    · exact Or.inl rfl
    · exact Or.inr rfl
    · exact absurd h (by unfold x_of; (repeat' split) <;> simp)
  · intro w M2 hw
    rcases hw with ⟨rfl, v, M1, hP, rfl⟩ | ⟨rfl, hE, rfl⟩ | ⟨rfl, hE, rfl⟩
    · obtain ⟨hx0, hv, rfl⟩ := hP
      have hL1 : zLw g mo mad o (ad (0, 0)) (K) S f ad M1 := ⟨hp, ⟨h14, h15, h16, rfl⟩⟩
      exact Or.inl ⟨rfl, hx0, _, ad, hL1.put _, by simp [vp_updL, hv]⟩
    · exact Or.inr ⟨0, 1, rfl, by decide, rfl, thrE1 hE, rfl⟩
    · exact Or.inr ⟨1, 2, rfl, by decide, rfl, thrE2 hE, rfl⟩
set_option maxRecDepth 100000 in
theorem v_ofSuit {g : zGh} {mo : Nat} {mad : Nat → Nat} {o x : Nat} {K : zK} {S : zS} {f : Nat → Int64} {ad : zg → Nat} {M : zM} (a0 : Int32) (a1 : Int32) (hL : zLw g mo mad o x K S f ad M) (hok : zOK K S) : zCw g yL_ofSuit cL_ofSuit 5 [(0, 10, 13, 19), (0, 10, 17, 25)] 8 134 [.ref x, .int a0, .int a1, .ref o] M 8 48 (zPst g mo mad o x S M (x_of (K.1 33) 4 a0 a1) [1, 2] (K) ((a_ofSuit K a0 a1).toInt64)) := by
  obtain ⟨hp, h14, h15, h16, rfl⟩ := hL
  have h0 := K_ofSuit a0 a1 hp hok.1.1
  refine zCw.post (w_ofSuit (f := f) (o := o) h0 hp.main ?_ ?_) ?_
  · intro v M1 hP
    obtain ⟨-, -, rfl⟩ := hP
    rw [← h16]
    exact zPic.at hp ((kva_ge (by decide)).trans X0_out)
  · intro E M1 hE
    obtain ⟨⟨h, rfl⟩ | ⟨h, rfl⟩ | ⟨h, rfl⟩, -⟩ := hE
    · exact Or.inl rfl
    · exact Or.inr rfl
    · exact absurd h (by unfold x_of; (repeat' split) <;> simp)
  · intro w M2 hw
    rcases hw with ⟨rfl, v, M1, hP, rfl⟩ | ⟨rfl, hE, rfl⟩ | ⟨rfl, hE, rfl⟩
    · obtain ⟨hx0, hv, rfl⟩ := hP
      have hL1 : zLw g mo mad o (ad (0, 0)) (K) S f ad M1 := ⟨hp, ⟨h14, h15, h16, rfl⟩⟩
      exact Or.inl ⟨rfl, hx0, _, ad, hL1.put _, by simp [vp_updL, hv]⟩
    · exact Or.inr ⟨0, 1, rfl, by decide, rfl, thrE1 hE, rfl⟩
    · exact Or.inr ⟨1, 2, rfl, by decide, rfl, thrE2 hE, rfl⟩
set_option maxRecDepth 100000 in
theorem v_pass {g : zGh} {mo : Nat} {mad : Nat → Nat} {o x : Nat} {K : zK} {S : zS} {f : Nat → Int64} {ad : zg → Nat} {M : zM} (a0 : Int32) (hL : zLw g mo mad o x K S f ad M) (hok : zOK K S) : zCw g yL_pass cL_pass 4 [(0, 9, 12, 25), (0, 9, 15, 13)] 8 175 [.ref x, .int a0, .ref o] M (8 + (capF (kch (psK K a0.toNatClampNeg)) (K.1 13) - capF (kch K) (K.1 13))) (48 + 4 * (capF (kch (psK K a0.toNatClampNeg)) (K.1 13) - capF (kch K) (K.1 13))) (zPst g mo mad o x S M (x_pass K a0) [2, 3] (psK K a0.toNatClampNeg) ((nI (K.1 1 + a0.toNatClampNeg)).toInt64)) := by
  obtain ⟨hp, h14, h15, h16, rfl⟩ := hL
  have h0 := K_pass a0 hp hok.1.1 hok.1.2.2.2.1 (by decide)
  refine zCw.post (w_pass (f := f) (o := o) h0 hp.main ?_ ?_) ?_
  · intro v M1 hP
    obtain ⟨-, -, ad1, hP1, ht⟩ := hP
    rw [← h16, ← (ht (16, 0) (by decide) (by decide))]
    exact zPic.at hP1 ((kva_ge (by decide)).trans X0_out)
  · intro E M1 hE
    obtain ⟨⟨h, rfl⟩ | ⟨h, rfl⟩ | ⟨h, rfl⟩, -⟩ := hE
    · exact absurd h (by unfold x_pass; (repeat' split) <;> simp)
    · exact Or.inl rfl
    · exact Or.inr rfl
  · intro w M2 hw
    rcases hw with ⟨rfl, v, M1, hP, rfl⟩ | ⟨rfl, hE, rfl⟩ | ⟨rfl, hE, rfl⟩
    · obtain ⟨hx0, hv, ad1, hP1, ht⟩ := hP
      have hL1 : zLw g mo mad o (ad (0, 0)) (psK K a0.toNatClampNeg) S f ad1 M1 := ⟨hP1, ⟨(ht (14, 0) (by decide) (by decide)).trans h14, fun j => (ht (15, j) (fun h => by cases h) (fun h => by cases h)).trans (h15 j), (ht (16, 0) (by decide) (by decide)).trans h16, ht (0, 0) (by decide) (by decide)⟩⟩
      exact Or.inl ⟨rfl, hx0, _, ad1, hL1.put _, by simp [vp_updL, hv]⟩
    · exact Or.inr ⟨0, 2, rfl, by decide, rfl, thrE2 hE, rfl⟩
    · exact Or.inr ⟨1, 3, rfl, by decide, rfl, thrE3 hE, rfl⟩
