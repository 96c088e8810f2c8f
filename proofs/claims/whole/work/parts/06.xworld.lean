def xcap (r : Nat) : Nat := [60, 60, 40, 40, 40, 60, 60, 60, 60, 60, 60, 8, 40, 60, 60, 60, 40].getD r 0
def xW (cI cZ cJ : ClassId) (ao aa : Nat → Nat) (S : St) : va_W := [(ao 0, .inr (0, [.ref (aa 0), .int (gI S 0)])), (ao 1, .inr (0, [.ref (aa 1), .int (gI S 1)])), (ao 2, .inr (0, [.ref (aa 2), .int (gI S 2)])), (ao 3, .inr (0, [.ref (aa 3), .int (gI S 3)])), (ao 4, .inr (0, [.ref (aa 4), .int (gI S 4)])), (ao 5, .inr (0, [.ref (aa 5), .int (gI S 5)])), (ao 6, .inr (0, [.ref (aa 6), .int (gI S 6)])), (ao 7, .inr (0, [.ref (aa 7), .int (gI S 7)])), (ao 8, .inr (0, [.ref (aa 8), .int (gI S 8)])), (ao 9, .inr (0, [.ref (aa 9), .int (gI S 9)])), (ao 10, .inr (0, [.ref (aa 10), .int (gI S 10)])), (ao 11, .inr (0, [.ref (aa 11), .int (gI S 11)])), (ao 12, .inr (0, [.ref (aa 12), .int (gI S 12)])), (ao 13, .inr (0, [.ref (aa 13), .int (gI S 13)])), (ao 14, .inr (0, [.ref (aa 14), .int (gI S 14)])), (ao 15, .inr (0, [.ref (aa 15), .int (gI S 15)])), (ao 16, .inr (0, [.ref (aa 16), .int (gI S 16)])), (ao 17, .inr (1, [.ref (ao 9), .int (gI S 17), .int (gI S 18), .long (gL S 0)])), (ao 18, .inr (1, [.ref (ao 10), .int (gI S 19), .int (gI S 20), .long (gL S 1)])), (ao 19, .inr (2, [.ref (ao 21), .long (gL S 2), .int (gI S 21)])), (ao 20, .inr (2, [.ref (ao 21), .long (gL S 3), .int (gI S 22)])), (ao 21, .inr (3, [.ref (aa 17), .ref (aa 18), .ref (aa 19), .int (gI S 23), .long (gL S 4), .long (gL S 5), .long (gL S 6), .long (gL S 7)])), (ao 22, .inr (4, [.ref (ao 0), .ref (ao 1), .int (gI S 24)])), (ao 23, .inr (5, [.ref (aa 20), .ref (aa 21), .ref (aa 22), .ref (aa 23), .ref (aa 24), .ref (aa 25), .int (gI S 25)])), (ao 24, .inr (6, [.ref (ao 2), .ref (ao 3), .ref (ao 4)])), (ao 25, .inr (7, [.ref (ao 21), .ref (ao 23), .ref (ao 24), .ref (ao 6), .ref (ao 20), .ref (ao 17), .ref (ao 18), .ref (ao 11), .ref (ao 12), .int (gI S 26), .int (gI S 27), .int (gI S 28), .int (gI S 29)])), (ao 26, .inr (8, [.ref (ao 13), .ref (ao 14), .ref (ao 15), .ref (ao 16), .int (gI S 30), .int (gI S 31), .int (gI S 32), .int (gI S 33), .int (gI S 34)])), (ao 27, .inr (9, [.ref (ao 21), .ref (ao 22), .ref (ao 23), .ref (ao 24), .ref (ao 5), .ref (ao 6), .ref (ao 7), .ref (ao 8), .ref (ao 19), .ref (ao 25), .ref (ao 26), .int (gI S 35), .int (gI S 36)])), (aa 0, .inl (cI, 60, .inl (gA S 0))), (aa 1, .inl (cI, 60, .inl (gA S 1))), (aa 2, .inl (cI, 40, .inl (gA S 2))), (aa 3, .inl (cI, 40, .inl (gA S 3))), (aa 4, .inl (cI, 40, .inl (gA S 4))), (aa 5, .inl (cI, 60, .inl (gA S 5))), (aa 6, .inl (cI, 60, .inl (gA S 6))), (aa 7, .inl (cI, 60, .inl (gA S 7))), (aa 8, .inl (cI, 60, .inl (gA S 8))), (aa 9, .inl (cI, 60, .inl (gA S 9))), (aa 10, .inl (cI, 60, .inl (gA S 10))), (aa 11, .inl (cI, 8, .inl (gA S 11))), (aa 12, .inl (cI, 40, .inl (gA S 12))), (aa 13, .inl (cI, 60, .inl (gA S 13))), (aa 14, .inl (cI, 60, .inl (gA S 14))), (aa 15, .inl (cI, 60, .inl (gA S 15))), (aa 16, .inl (cI, 40, .inl (gA S 16))), (aa 17, .inl (cI, 40, .inl (gA S 17))), (aa 18, .inl (cI, 40, .inl (gA S 18))), (aa 19, .inl (cI, 160, .inl (gA S 19))), (aa 20, .inl (cI, 60, .inl (gA S 20))), (aa 21, .inl (cI, 60, .inl (gA S 21))), (aa 22, .inl (cZ, 60, .inl (gA S 22))), (aa 23, .inl (cI, 60, .inl (gA S 23))), (aa 24, .inl (cI, 480, .inl (gA S 24))), (aa 25, .inl (cI, 480, .inl (gA S 25)))]
def xA (ao aa : Nat → Nat) : Nat → Prop := fun q => (∃ k, k < 28 ∧ q = ao k) ∨ ∃ k, k < 26 ∧ q = aa k
theorem xo_row {cI cZ cJ : ClassId} {ao aa : Nat → Nat} {S : St} : ∀ {r : Nat}, r < 17 → (xW cI cZ cJ ao aa S)[r]? = some (ao r, .inr (0, [.ref (aa r), .int (gI S r)]))
  | 0, _ => rfl
  | 1, _ => rfl
  | 2, _ => rfl
  | 3, _ => rfl
  | 4, _ => rfl
  | 5, _ => rfl
  | 6, _ => rfl
  | 7, _ => rfl
  | 8, _ => rfl
  | 9, _ => rfl
  | 10, _ => rfl
  | 11, _ => rfl
  | 12, _ => rfl
  | 13, _ => rfl
  | 14, _ => rfl
  | 15, _ => rfl
  | 16, _ => rfl
  | n + 17, h => absurd h (by omega)
theorem xa_row {cI cZ cJ : ClassId} {ao aa : Nat → Nat} {S : St} : ∀ {r : Nat}, r < 17 → (xW cI cZ cJ ao aa S)[28 + r]? = some (aa r, .inl (cI, xcap r, .inl (gA S r)))
  | 0, _ => rfl
  | 1, _ => rfl
  | 2, _ => rfl
  | 3, _ => rfl
  | 4, _ => rfl
  | 5, _ => rfl
  | 6, _ => rfl
  | 7, _ => rfl
  | 8, _ => rfl
  | 9, _ => rfl
  | 10, _ => rfl
  | 11, _ => rfl
  | 12, _ => rfl
  | 13, _ => rfl
  | 14, _ => rfl
  | 15, _ => rfl
  | 16, _ => rfl
  | n + 17, h => absurd h (by omega)
set_option maxRecDepth 100000 in
theorem xs_row {cI cZ cJ : ClassId} {ao aa : Nat → Nat} {S : St} {v : Int32} : ∀ {r : Nat}, r < 17 → (xW cI cZ cJ ao aa S).set r (ao r, .inr (0, ([.ref (aa r), .int (gI S r)]).set 1 (.int v))) = xW cI cZ cJ ao aa (sI S r v)
  | 0, _ => rfl
  | 1, _ => rfl
  | 2, _ => rfl
  | 3, _ => rfl
  | 4, _ => rfl
  | 5, _ => rfl
  | 6, _ => rfl
  | 7, _ => rfl
  | 8, _ => rfl
  | 9, _ => rfl
  | 10, _ => rfl
  | 11, _ => rfl
  | 12, _ => rfl
  | 13, _ => rfl
  | 14, _ => rfl
  | 15, _ => rfl
  | 16, _ => rfl
  | n + 17, h => absurd h (by omega)
set_option maxRecDepth 100000 in
theorem xt_row {cI cZ cJ : ClassId} {ao aa : Nat → Nat} {S : St} {i : Nat} {v : Int32} : ∀ {r : Nat}, r < 17 → (xW cI cZ cJ ao aa S).set (28 + r) (aa r, .inl (cI, xcap r, .inl (upd (gA S r) i v))) = xW cI cZ cJ ao aa (sA S r i v)
  | 0, _ => rfl
  | 1, _ => rfl
  | 2, _ => rfl
  | 3, _ => rfl
  | 4, _ => rfl
  | 5, _ => rfl
  | 6, _ => rfl
  | 7, _ => rfl
  | 8, _ => rfl
  | 9, _ => rfl
  | 10, _ => rfl
  | 11, _ => rfl
  | 12, _ => rfl
  | 13, _ => rfl
  | 14, _ => rfl
  | 15, _ => rfl
  | 16, _ => rfl
  | n + 17, h => absurd h (by omega)
theorem xo_17 {cI cZ cJ : ClassId} {ao aa : Nat → Nat} {S : St} : (xW cI cZ cJ ao aa S)[17]? = some (ao 17, .inr (1, [.ref (ao 9), .int (gI S 17), .int (gI S 18), .long (gL S 0)])) := rfl
set_option maxRecDepth 100000 in
theorem xs_17_kind {cI cZ cJ : ClassId} {ao aa : Nat → Nat} {S : St} {v : Int32} : (xW cI cZ cJ ao aa S).set 17 (ao 17, .inr (1, [.ref (ao 9), .int (gI S 17), .int (gI S 18), .long (gL S 0)].set 1 (.int v))) = xW cI cZ cJ ao aa (sI S 17 v) := rfl
set_option maxRecDepth 100000 in
theorem xs_17_place {cI cZ cJ : ClassId} {ao aa : Nat → Nat} {S : St} {v : Int32} : (xW cI cZ cJ ao aa S).set 17 (ao 17, .inr (1, [.ref (ao 9), .int (gI S 17), .int (gI S 18), .long (gL S 0)].set 2 (.int v))) = xW cI cZ cJ ao aa (sI S 18 v) := rfl
set_option maxRecDepth 100000 in
theorem xs_17_things {cI cZ cJ : ClassId} {ao aa : Nat → Nat} {S : St} {v : Int64} : (xW cI cZ cJ ao aa S).set 17 (ao 17, .inr (1, [.ref (ao 9), .int (gI S 17), .int (gI S 18), .long (gL S 0)].set 3 (.long v))) = xW cI cZ cJ ao aa (sL S 0 v) := rfl
theorem xo_18 {cI cZ cJ : ClassId} {ao aa : Nat → Nat} {S : St} : (xW cI cZ cJ ao aa S)[18]? = some (ao 18, .inr (1, [.ref (ao 10), .int (gI S 19), .int (gI S 20), .long (gL S 1)])) := rfl
set_option maxRecDepth 100000 in
theorem xs_18_kind {cI cZ cJ : ClassId} {ao aa : Nat → Nat} {S : St} {v : Int32} : (xW cI cZ cJ ao aa S).set 18 (ao 18, .inr (1, [.ref (ao 10), .int (gI S 19), .int (gI S 20), .long (gL S 1)].set 1 (.int v))) = xW cI cZ cJ ao aa (sI S 19 v) := rfl
set_option maxRecDepth 100000 in
theorem xs_18_place {cI cZ cJ : ClassId} {ao aa : Nat → Nat} {S : St} {v : Int32} : (xW cI cZ cJ ao aa S).set 18 (ao 18, .inr (1, [.ref (ao 10), .int (gI S 19), .int (gI S 20), .long (gL S 1)].set 2 (.int v))) = xW cI cZ cJ ao aa (sI S 20 v) := rfl
set_option maxRecDepth 100000 in
theorem xs_18_things {cI cZ cJ : ClassId} {ao aa : Nat → Nat} {S : St} {v : Int64} : (xW cI cZ cJ ao aa S).set 18 (ao 18, .inr (1, [.ref (ao 10), .int (gI S 19), .int (gI S 20), .long (gL S 1)].set 3 (.long v))) = xW cI cZ cJ ao aa (sL S 1 v) := rfl
theorem xo_19 {cI cZ cJ : ClassId} {ao aa : Nat → Nat} {S : St} : (xW cI cZ cJ ao aa S)[19]? = some (ao 19, .inr (2, [.ref (ao 21), .long (gL S 2), .int (gI S 21)])) := rfl
set_option maxRecDepth 100000 in
theorem xs_19_its {cI cZ cJ : ClassId} {ao aa : Nat → Nat} {S : St} {v : Int64} : (xW cI cZ cJ ao aa S).set 19 (ao 19, .inr (2, [.ref (ao 21), .long (gL S 2), .int (gI S 21)].set 1 (.long v))) = xW cI cZ cJ ao aa (sL S 2 v) := rfl
set_option maxRecDepth 100000 in
theorem xs_19_end {cI cZ cJ : ClassId} {ao aa : Nat → Nat} {S : St} {v : Int32} : (xW cI cZ cJ ao aa S).set 19 (ao 19, .inr (2, [.ref (ao 21), .long (gL S 2), .int (gI S 21)].set 2 (.int v))) = xW cI cZ cJ ao aa (sI S 21 v) := rfl
theorem xo_20 {cI cZ cJ : ClassId} {ao aa : Nat → Nat} {S : St} : (xW cI cZ cJ ao aa S)[20]? = some (ao 20, .inr (2, [.ref (ao 21), .long (gL S 3), .int (gI S 22)])) := rfl
set_option maxRecDepth 100000 in
theorem xs_20_its {cI cZ cJ : ClassId} {ao aa : Nat → Nat} {S : St} {v : Int64} : (xW cI cZ cJ ao aa S).set 20 (ao 20, .inr (2, [.ref (ao 21), .long (gL S 3), .int (gI S 22)].set 1 (.long v))) = xW cI cZ cJ ao aa (sL S 3 v) := rfl
set_option maxRecDepth 100000 in
theorem xs_20_end {cI cZ cJ : ClassId} {ao aa : Nat → Nat} {S : St} {v : Int32} : (xW cI cZ cJ ao aa S).set 20 (ao 20, .inr (2, [.ref (ao 21), .long (gL S 3), .int (gI S 22)].set 2 (.int v))) = xW cI cZ cJ ao aa (sI S 22 v) := rfl
theorem xo_21 {cI cZ cJ : ClassId} {ao aa : Nat → Nat} {S : St} : (xW cI cZ cJ ao aa S)[21]? = some (ao 21, .inr (3, [.ref (aa 17), .ref (aa 18), .ref (aa 19), .int (gI S 23), .long (gL S 4), .long (gL S 5), .long (gL S 6), .long (gL S 7)])) := rfl
set_option maxRecDepth 100000 in
theorem xs_21_count {cI cZ cJ : ClassId} {ao aa : Nat → Nat} {S : St} {v : Int32} : (xW cI cZ cJ ao aa S).set 21 (ao 21, .inr (3, [.ref (aa 17), .ref (aa 18), .ref (aa 19), .int (gI S 23), .long (gL S 4), .long (gL S 5), .long (gL S 6), .long (gL S 7)].set 3 (.int v))) = xW cI cZ cJ ao aa (sI S 23 v) := rfl
set_option maxRecDepth 100000 in
theorem xs_21_inScope {cI cZ cJ : ClassId} {ao aa : Nat → Nat} {S : St} {v : Int64} : (xW cI cZ cJ ao aa S).set 21 (ao 21, .inr (3, [.ref (aa 17), .ref (aa 18), .ref (aa 19), .int (gI S 23), .long (gL S 4), .long (gL S 5), .long (gL S 6), .long (gL S 7)].set 4 (.long v))) = xW cI cZ cJ ao aa (sL S 4 v) := rfl
set_option maxRecDepth 100000 in
theorem xs_21_held {cI cZ cJ : ClassId} {ao aa : Nat → Nat} {S : St} {v : Int64} : (xW cI cZ cJ ao aa S).set 21 (ao 21, .inr (3, [.ref (aa 17), .ref (aa 18), .ref (aa 19), .int (gI S 23), .long (gL S 4), .long (gL S 5), .long (gL S 6), .long (gL S 7)].set 5 (.long v))) = xW cI cZ cJ ao aa (sL S 5 v) := rfl
set_option maxRecDepth 100000 in
theorem xs_21_worn {cI cZ cJ : ClassId} {ao aa : Nat → Nat} {S : St} {v : Int64} : (xW cI cZ cJ ao aa S).set 21 (ao 21, .inr (3, [.ref (aa 17), .ref (aa 18), .ref (aa 19), .int (gI S 23), .long (gL S 4), .long (gL S 5), .long (gL S 6), .long (gL S 7)].set 6 (.long v))) = xW cI cZ cJ ao aa (sL S 6 v) := rfl
set_option maxRecDepth 100000 in
theorem xs_21_creatures {cI cZ cJ : ClassId} {ao aa : Nat → Nat} {S : St} {v : Int64} : (xW cI cZ cJ ao aa S).set 21 (ao 21, .inr (3, [.ref (aa 17), .ref (aa 18), .ref (aa 19), .int (gI S 23), .long (gL S 4), .long (gL S 5), .long (gL S 6), .long (gL S 7)].set 7 (.long v))) = xW cI cZ cJ ao aa (sL S 7 v) := rfl
theorem xo_22 {cI cZ cJ : ClassId} {ao aa : Nat → Nat} {S : St} : (xW cI cZ cJ ao aa S)[22]? = some (ao 22, .inr (4, [.ref (ao 0), .ref (ao 1), .int (gI S 24)])) := rfl
set_option maxRecDepth 100000 in
theorem xs_22_count {cI cZ cJ : ClassId} {ao aa : Nat → Nat} {S : St} {v : Int32} : (xW cI cZ cJ ao aa S).set 22 (ao 22, .inr (4, [.ref (ao 0), .ref (ao 1), .int (gI S 24)].set 2 (.int v))) = xW cI cZ cJ ao aa (sI S 24 v) := rfl
theorem xo_23 {cI cZ cJ : ClassId} {ao aa : Nat → Nat} {S : St} : (xW cI cZ cJ ao aa S)[23]? = some (ao 23, .inr (5, [.ref (aa 20), .ref (aa 21), .ref (aa 22), .ref (aa 23), .ref (aa 24), .ref (aa 25), .int (gI S 25)])) := rfl
set_option maxRecDepth 100000 in
theorem xs_23_count {cI cZ cJ : ClassId} {ao aa : Nat → Nat} {S : St} {v : Int32} : (xW cI cZ cJ ao aa S).set 23 (ao 23, .inr (5, [.ref (aa 20), .ref (aa 21), .ref (aa 22), .ref (aa 23), .ref (aa 24), .ref (aa 25), .int (gI S 25)].set 6 (.int v))) = xW cI cZ cJ ao aa (sI S 25 v) := rfl
theorem xo_24 {cI cZ cJ : ClassId} {ao aa : Nat → Nat} {S : St} : (xW cI cZ cJ ao aa S)[24]? = some (ao 24, .inr (6, [.ref (ao 2), .ref (ao 3), .ref (ao 4)])) := rfl
theorem xo_25 {cI cZ cJ : ClassId} {ao aa : Nat → Nat} {S : St} : (xW cI cZ cJ ao aa S)[25]? = some (ao 25, .inr (7, [.ref (ao 21), .ref (ao 23), .ref (ao 24), .ref (ao 6), .ref (ao 20), .ref (ao 17), .ref (ao 18), .ref (ao 11), .ref (ao 12), .int (gI S 26), .int (gI S 27), .int (gI S 28), .int (gI S 29)])) := rfl
set_option maxRecDepth 100000 in
theorem xs_25_line {cI cZ cJ : ClassId} {ao aa : Nat → Nat} {S : St} {v : Int32} : (xW cI cZ cJ ao aa S).set 25 (ao 25, .inr (7, [.ref (ao 21), .ref (ao 23), .ref (ao 24), .ref (ao 6), .ref (ao 20), .ref (ao 17), .ref (ao 18), .ref (ao 11), .ref (ao 12), .int (gI S 26), .int (gI S 27), .int (gI S 28), .int (gI S 29)].set 9 (.int v))) = xW cI cZ cJ ao aa (sI S 26 v) := rfl
set_option maxRecDepth 100000 in
theorem xs_25_cursor {cI cZ cJ : ClassId} {ao aa : Nat → Nat} {S : St} {v : Int32} : (xW cI cZ cJ ao aa S).set 25 (ao 25, .inr (7, [.ref (ao 21), .ref (ao 23), .ref (ao 24), .ref (ao 6), .ref (ao 20), .ref (ao 17), .ref (ao 18), .ref (ao 11), .ref (ao 12), .int (gI S 26), .int (gI S 27), .int (gI S 28), .int (gI S 29)].set 10 (.int v))) = xW cI cZ cJ ao aa (sI S 27 v) := rfl
set_option maxRecDepth 100000 in
theorem xs_25_error {cI cZ cJ : ClassId} {ao aa : Nat → Nat} {S : St} {v : Int32} : (xW cI cZ cJ ao aa S).set 25 (ao 25, .inr (7, [.ref (ao 21), .ref (ao 23), .ref (ao 24), .ref (ao 6), .ref (ao 20), .ref (ao 17), .ref (ao 18), .ref (ao 11), .ref (ao 12), .int (gI S 26), .int (gI S 27), .int (gI S 28), .int (gI S 29)].set 11 (.int v))) = xW cI cZ cJ ao aa (sI S 28 v) := rfl
set_option maxRecDepth 100000 in
theorem xs_25_place {cI cZ cJ : ClassId} {ao aa : Nat → Nat} {S : St} {v : Int32} : (xW cI cZ cJ ao aa S).set 25 (ao 25, .inr (7, [.ref (ao 21), .ref (ao 23), .ref (ao 24), .ref (ao 6), .ref (ao 20), .ref (ao 17), .ref (ao 18), .ref (ao 11), .ref (ao 12), .int (gI S 26), .int (gI S 27), .int (gI S 28), .int (gI S 29)].set 12 (.int v))) = xW cI cZ cJ ao aa (sI S 29 v) := rfl
theorem xo_26 {cI cZ cJ : ClassId} {ao aa : Nat → Nat} {S : St} : (xW cI cZ cJ ao aa S)[26]? = some (ao 26, .inr (8, [.ref (ao 13), .ref (ao 14), .ref (ao 15), .ref (ao 16), .int (gI S 30), .int (gI S 31), .int (gI S 32), .int (gI S 33), .int (gI S 34)])) := rfl
set_option maxRecDepth 100000 in
theorem xs_26_action {cI cZ cJ : ClassId} {ao aa : Nat → Nat} {S : St} {v : Int32} : (xW cI cZ cJ ao aa S).set 26 (ao 26, .inr (8, [.ref (ao 13), .ref (ao 14), .ref (ao 15), .ref (ao 16), .int (gI S 30), .int (gI S 31), .int (gI S 32), .int (gI S 33), .int (gI S 34)].set 4 (.int v))) = xW cI cZ cJ ao aa (sI S 30 v) := rfl
set_option maxRecDepth 100000 in
theorem xs_26_error {cI cZ cJ : ClassId} {ao aa : Nat → Nat} {S : St} {v : Int32} : (xW cI cZ cJ ao aa S).set 26 (ao 26, .inr (8, [.ref (ao 13), .ref (ao 14), .ref (ao 15), .ref (ao 16), .int (gI S 30), .int (gI S 31), .int (gI S 32), .int (gI S 33), .int (gI S 34)].set 5 (.int v))) = xW cI cZ cJ ao aa (sI S 31 v) := rfl
set_option maxRecDepth 100000 in
theorem xs_26_place {cI cZ cJ : ClassId} {ao aa : Nat → Nat} {S : St} {v : Int32} : (xW cI cZ cJ ao aa S).set 26 (ao 26, .inr (8, [.ref (ao 13), .ref (ao 14), .ref (ao 15), .ref (ao 16), .int (gI S 30), .int (gI S 31), .int (gI S 32), .int (gI S 33), .int (gI S 34)].set 6 (.int v))) = xW cI cZ cJ ao aa (sI S 32 v) := rfl
set_option maxRecDepth 100000 in
theorem xs_26_line {cI cZ cJ : ClassId} {ao aa : Nat → Nat} {S : St} {v : Int32} : (xW cI cZ cJ ao aa S).set 26 (ao 26, .inr (8, [.ref (ao 13), .ref (ao 14), .ref (ao 15), .ref (ao 16), .int (gI S 30), .int (gI S 31), .int (gI S 32), .int (gI S 33), .int (gI S 34)].set 7 (.int v))) = xW cI cZ cJ ao aa (sI S 33 v) := rfl
set_option maxRecDepth 100000 in
theorem xs_26_phraseEnd {cI cZ cJ : ClassId} {ao aa : Nat → Nat} {S : St} {v : Int32} : (xW cI cZ cJ ao aa S).set 26 (ao 26, .inr (8, [.ref (ao 13), .ref (ao 14), .ref (ao 15), .ref (ao 16), .int (gI S 30), .int (gI S 31), .int (gI S 32), .int (gI S 33), .int (gI S 34)].set 8 (.int v))) = xW cI cZ cJ ao aa (sI S 34 v) := rfl
theorem xo_27 {cI cZ cJ : ClassId} {ao aa : Nat → Nat} {S : St} : (xW cI cZ cJ ao aa S)[27]? = some (ao 27, .inr (9, [.ref (ao 21), .ref (ao 22), .ref (ao 23), .ref (ao 24), .ref (ao 5), .ref (ao 6), .ref (ao 7), .ref (ao 8), .ref (ao 19), .ref (ao 25), .ref (ao 26), .int (gI S 35), .int (gI S 36)])) := rfl
set_option maxRecDepth 100000 in
theorem xs_27_recipient {cI cZ cJ : ClassId} {ao aa : Nat → Nat} {S : St} {v : Int32} : (xW cI cZ cJ ao aa S).set 27 (ao 27, .inr (9, [.ref (ao 21), .ref (ao 22), .ref (ao 23), .ref (ao 24), .ref (ao 5), .ref (ao 6), .ref (ao 7), .ref (ao 8), .ref (ao 19), .ref (ao 25), .ref (ao 26), .int (gI S 35), .int (gI S 36)].set 11 (.int v))) = xW cI cZ cJ ao aa (sI S 35 v) := rfl
set_option maxRecDepth 100000 in
theorem xs_27_doneTo {cI cZ cJ : ClassId} {ao aa : Nat → Nat} {S : St} {v : Int32} : (xW cI cZ cJ ao aa S).set 27 (ao 27, .inr (9, [.ref (ao 21), .ref (ao 22), .ref (ao 23), .ref (ao 24), .ref (ao 5), .ref (ao 6), .ref (ao 7), .ref (ao 8), .ref (ao 19), .ref (ao 25), .ref (ao 26), .int (gI S 35), .int (gI S 36)].set 12 (.int v))) = xW cI cZ cJ ao aa (sI S 36 v) := rfl
theorem xa_17 {cI cZ cJ : ClassId} {ao aa : Nat → Nat} {S : St} : (xW cI cZ cJ ao aa S)[45]? = some (aa 17, .inl (cI, 40, .inl (gA S 17))) := rfl
set_option maxRecDepth 100000 in
theorem xt_17 {cI cZ cJ : ClassId} {ao aa : Nat → Nat} {S : St} {i : Nat} {v : Int32} : (xW cI cZ cJ ao aa S).set 45 (aa 17, .inl (cI, 40, .inl (upd (gA S 17) i v))) = xW cI cZ cJ ao aa (sA S 17 i v) := rfl
theorem xa_18 {cI cZ cJ : ClassId} {ao aa : Nat → Nat} {S : St} : (xW cI cZ cJ ao aa S)[46]? = some (aa 18, .inl (cI, 40, .inl (gA S 18))) := rfl
set_option maxRecDepth 100000 in
theorem xt_18 {cI cZ cJ : ClassId} {ao aa : Nat → Nat} {S : St} {i : Nat} {v : Int32} : (xW cI cZ cJ ao aa S).set 46 (aa 18, .inl (cI, 40, .inl (upd (gA S 18) i v))) = xW cI cZ cJ ao aa (sA S 18 i v) := rfl
theorem xa_19 {cI cZ cJ : ClassId} {ao aa : Nat → Nat} {S : St} : (xW cI cZ cJ ao aa S)[47]? = some (aa 19, .inl (cI, 160, .inl (gA S 19))) := rfl
set_option maxRecDepth 100000 in
theorem xt_19 {cI cZ cJ : ClassId} {ao aa : Nat → Nat} {S : St} {i : Nat} {v : Int32} : (xW cI cZ cJ ao aa S).set 47 (aa 19, .inl (cI, 160, .inl (upd (gA S 19) i v))) = xW cI cZ cJ ao aa (sA S 19 i v) := rfl
theorem xa_20 {cI cZ cJ : ClassId} {ao aa : Nat → Nat} {S : St} : (xW cI cZ cJ ao aa S)[48]? = some (aa 20, .inl (cI, 60, .inl (gA S 20))) := rfl
set_option maxRecDepth 100000 in
theorem xt_20 {cI cZ cJ : ClassId} {ao aa : Nat → Nat} {S : St} {i : Nat} {v : Int32} : (xW cI cZ cJ ao aa S).set 48 (aa 20, .inl (cI, 60, .inl (upd (gA S 20) i v))) = xW cI cZ cJ ao aa (sA S 20 i v) := rfl
theorem xa_21 {cI cZ cJ : ClassId} {ao aa : Nat → Nat} {S : St} : (xW cI cZ cJ ao aa S)[49]? = some (aa 21, .inl (cI, 60, .inl (gA S 21))) := rfl
set_option maxRecDepth 100000 in
theorem xt_21 {cI cZ cJ : ClassId} {ao aa : Nat → Nat} {S : St} {i : Nat} {v : Int32} : (xW cI cZ cJ ao aa S).set 49 (aa 21, .inl (cI, 60, .inl (upd (gA S 21) i v))) = xW cI cZ cJ ao aa (sA S 21 i v) := rfl
theorem xa_22 {cI cZ cJ : ClassId} {ao aa : Nat → Nat} {S : St} : (xW cI cZ cJ ao aa S)[50]? = some (aa 22, .inl (cZ, 60, .inl (gA S 22))) := rfl
set_option maxRecDepth 100000 in
theorem xt_22 {cI cZ cJ : ClassId} {ao aa : Nat → Nat} {S : St} {i : Nat} {v : Int32} : (xW cI cZ cJ ao aa S).set 50 (aa 22, .inl (cZ, 60, .inl (upd (gA S 22) i v))) = xW cI cZ cJ ao aa (sA S 22 i v) := rfl
theorem xa_23 {cI cZ cJ : ClassId} {ao aa : Nat → Nat} {S : St} : (xW cI cZ cJ ao aa S)[51]? = some (aa 23, .inl (cI, 60, .inl (gA S 23))) := rfl
set_option maxRecDepth 100000 in
theorem xt_23 {cI cZ cJ : ClassId} {ao aa : Nat → Nat} {S : St} {i : Nat} {v : Int32} : (xW cI cZ cJ ao aa S).set 51 (aa 23, .inl (cI, 60, .inl (upd (gA S 23) i v))) = xW cI cZ cJ ao aa (sA S 23 i v) := rfl
theorem xa_24 {cI cZ cJ : ClassId} {ao aa : Nat → Nat} {S : St} : (xW cI cZ cJ ao aa S)[52]? = some (aa 24, .inl (cI, 480, .inl (gA S 24))) := rfl
set_option maxRecDepth 100000 in
theorem xt_24 {cI cZ cJ : ClassId} {ao aa : Nat → Nat} {S : St} {i : Nat} {v : Int32} : (xW cI cZ cJ ao aa S).set 52 (aa 24, .inl (cI, 480, .inl (upd (gA S 24) i v))) = xW cI cZ cJ ao aa (sA S 24 i v) := rfl
theorem xa_25 {cI cZ cJ : ClassId} {ao aa : Nat → Nat} {S : St} : (xW cI cZ cJ ao aa S)[53]? = some (aa 25, .inl (cI, 480, .inl (gA S 25))) := rfl
set_option maxRecDepth 100000 in
theorem xt_25 {cI cZ cJ : ClassId} {ao aa : Nat → Nat} {S : St} {i : Nat} {v : Int32} : (xW cI cZ cJ ao aa S).set 53 (aa 25, .inl (cI, 480, .inl (upd (gA S 25) i v))) = xW cI cZ cJ ao aa (sA S 25 i v) := rfl
