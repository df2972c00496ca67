/-! DETERMINANTS up to five, by hand; what elimination without fractions makes -/
def sumI (f : Nat → Int) : Nat → Int
  | 0 => 0
  | n + 1 => sumI f n + f n
def rep (A : Nat → Nat → Int) (k : Nat) (c : Nat → Int) : Nat → Nat → Int := fun i j => if j = k then c i else A i j
def det1 (a00 : Int) : Int := a00
def dd1 (A : Nat → Nat → Int) : Int := det1 (A 0 0)
def det2 (a00 a01 a10 a11 : Int) : Int := a00 * a11 - a01 * a10
def dd2 (A : Nat → Nat → Int) : Int := det2 (A 0 0) (A 0 1) (A 1 0) (A 1 1)
def det3 (a00 a01 a02 a10 a11 a12 a20 a21 a22 : Int) : Int := a00 * a11 * a22 - a00 * a12 * a21 - a01 * a10 * a22 + a01 * a12 * a20 + a02 * a10 * a21 - a02 * a11 * a20
def dd3 (A : Nat → Nat → Int) : Int := det3 (A 0 0) (A 0 1) (A 0 2) (A 1 0) (A 1 1) (A 1 2) (A 2 0) (A 2 1) (A 2 2)
def det4 (a00 a01 a02 a03 a10 a11 a12 a13 a20 a21 a22 a23 a30 a31 a32 a33 : Int) : Int := a00 * a11 * a22 * a33 - a00 * a11 * a23 * a32 - a00 * a12 * a21 * a33 + a00 * a12 * a23 * a31 + a00 * a13 * a21 * a32 - a00 * a13 * a22 * a31 - a01 * a10 * a22 * a33 + a01 * a10 * a23 * a32 + a01 * a12 * a20 * a33 - a01 * a12 * a23 * a30 - a01 * a13 * a20 * a32 + a01 * a13 * a22 * a30 + a02 * a10 * a21 * a33 - a02 * a10 * a23 * a31 - a02 * a11 * a20 * a33 + a02 * a11 * a23 * a30 + a02 * a13 * a20 * a31 - a02 * a13 * a21 * a30 - a03 * a10 * a21 * a32 + a03 * a10 * a22 * a31 + a03 * a11 * a20 * a32 - a03 * a11 * a22 * a30 - a03 * a12 * a20 * a31 + a03 * a12 * a21 * a30
def dd4 (A : Nat → Nat → Int) : Int := det4 (A 0 0) (A 0 1) (A 0 2) (A 0 3) (A 1 0) (A 1 1) (A 1 2) (A 1 3) (A 2 0) (A 2 1) (A 2 2) (A 2 3) (A 3 0) (A 3 1) (A 3 2) (A 3 3)
def det5 (a00 a01 a02 a03 a04 a10 a11 a12 a13 a14 a20 a21 a22 a23 a24 a30 a31 a32 a33 a34 a40 a41 a42 a43 a44 : Int) : Int := a00 * a11 * a22 * a33 * a44 - a00 * a11 * a22 * a34 * a43 - a00 * a11 * a23 * a32 * a44 + a00 * a11 * a23 * a34 * a42 + a00 * a11 * a24 * a32 * a43 - a00 * a11 * a24 * a33 * a42 - a00 * a12 * a21 * a33 * a44 + a00 * a12 * a21 * a34 * a43 + a00 * a12 * a23 * a31 * a44 - a00 * a12 * a23 * a34 * a41 - a00 * a12 * a24 * a31 * a43 + a00 * a12 * a24 * a33 * a41 + a00 * a13 * a21 * a32 * a44 - a00 * a13 * a21 * a34 * a42 - a00 * a13 * a22 * a31 * a44 + a00 * a13 * a22 * a34 * a41 + a00 * a13 * a24 * a31 * a42 - a00 * a13 * a24 * a32 * a41 - a00 * a14 * a21 * a32 * a43 + a00 * a14 * a21 * a33 * a42 + a00 * a14 * a22 * a31 * a43 - a00 * a14 * a22 * a33 * a41 - a00 * a14 * a23 * a31 * a42 + a00 * a14 * a23 * a32 * a41 - a01 * a10 * a22 * a33 * a44 + a01 * a10 * a22 * a34 * a43 + a01 * a10 * a23 * a32 * a44 - a01 * a10 * a23 * a34 * a42 - a01 * a10 * a24 * a32 * a43 + a01 * a10 * a24 * a33 * a42 + a01 * a12 * a20 * a33 * a44 - a01 * a12 * a20 * a34 * a43 - a01 * a12 * a23 * a30 * a44 + a01 * a12 * a23 * a34 * a40 + a01 * a12 * a24 * a30 * a43 - a01 * a12 * a24 * a33 * a40 - a01 * a13 * a20 * a32 * a44 + a01 * a13 * a20 * a34 * a42 + a01 * a13 * a22 * a30 * a44 - a01 * a13 * a22 * a34 * a40 - a01 * a13 * a24 * a30 * a42 + a01 * a13 * a24 * a32 * a40 + a01 * a14 * a20 * a32 * a43 - a01 * a14 * a20 * a33 * a42 - a01 * a14 * a22 * a30 * a43 + a01 * a14 * a22 * a33 * a40 + a01 * a14 * a23 * a30 * a42 - a01 * a14 * a23 * a32 * a40 + a02 * a10 * a21 * a33 * a44 - a02 * a10 * a21 * a34 * a43 - a02 * a10 * a23 * a31 * a44 + a02 * a10 * a23 * a34 * a41 + a02 * a10 * a24 * a31 * a43 - a02 * a10 * a24 * a33 * a41 - a02 * a11 * a20 * a33 * a44 + a02 * a11 * a20 * a34 * a43 + a02 * a11 * a23 * a30 * a44 - a02 * a11 * a23 * a34 * a40 - a02 * a11 * a24 * a30 * a43 + a02 * a11 * a24 * a33 * a40 + a02 * a13 * a20 * a31 * a44 - a02 * a13 * a20 * a34 * a41 - a02 * a13 * a21 * a30 * a44 + a02 * a13 * a21 * a34 * a40 + a02 * a13 * a24 * a30 * a41 - a02 * a13 * a24 * a31 * a40 - a02 * a14 * a20 * a31 * a43 + a02 * a14 * a20 * a33 * a41 + a02 * a14 * a21 * a30 * a43 - a02 * a14 * a21 * a33 * a40 - a02 * a14 * a23 * a30 * a41 + a02 * a14 * a23 * a31 * a40 - a03 * a10 * a21 * a32 * a44 + a03 * a10 * a21 * a34 * a42 + a03 * a10 * a22 * a31 * a44 - a03 * a10 * a22 * a34 * a41 - a03 * a10 * a24 * a31 * a42 + a03 * a10 * a24 * a32 * a41 + a03 * a11 * a20 * a32 * a44 - a03 * a11 * a20 * a34 * a42 - a03 * a11 * a22 * a30 * a44 + a03 * a11 * a22 * a34 * a40 + a03 * a11 * a24 * a30 * a42 - a03 * a11 * a24 * a32 * a40 - a03 * a12 * a20 * a31 * a44 + a03 * a12 * a20 * a34 * a41 + a03 * a12 * a21 * a30 * a44 - a03 * a12 * a21 * a34 * a40 - a03 * a12 * a24 * a30 * a41 + a03 * a12 * a24 * a31 * a40 + a03 * a14 * a20 * a31 * a42 - a03 * a14 * a20 * a32 * a41 - a03 * a14 * a21 * a30 * a42 + a03 * a14 * a21 * a32 * a40 + a03 * a14 * a22 * a30 * a41 - a03 * a14 * a22 * a31 * a40 + a04 * a10 * a21 * a32 * a43 - a04 * a10 * a21 * a33 * a42 - a04 * a10 * a22 * a31 * a43 + a04 * a10 * a22 * a33 * a41 + a04 * a10 * a23 * a31 * a42 - a04 * a10 * a23 * a32 * a41 - a04 * a11 * a20 * a32 * a43 + a04 * a11 * a20 * a33 * a42 + a04 * a11 * a22 * a30 * a43 - a04 * a11 * a22 * a33 * a40 - a04 * a11 * a23 * a30 * a42 + a04 * a11 * a23 * a32 * a40 + a04 * a12 * a20 * a31 * a43 - a04 * a12 * a20 * a33 * a41 - a04 * a12 * a21 * a30 * a43 + a04 * a12 * a21 * a33 * a40 + a04 * a12 * a23 * a30 * a41 - a04 * a12 * a23 * a31 * a40 - a04 * a13 * a20 * a31 * a42 + a04 * a13 * a20 * a32 * a41 + a04 * a13 * a21 * a30 * a42 - a04 * a13 * a21 * a32 * a40 - a04 * a13 * a22 * a30 * a41 + a04 * a13 * a22 * a31 * a40
def dd5 (A : Nat → Nat → Int) : Int := det5 (A 0 0) (A 0 1) (A 0 2) (A 0 3) (A 0 4) (A 1 0) (A 1 1) (A 1 2) (A 1 3) (A 1 4) (A 2 0) (A 2 1) (A 2 2) (A 2 3) (A 2 4) (A 3 0) (A 3 1) (A 3 2) (A 3 3) (A 3 4) (A 4 0) (A 4 1) (A 4 2) (A 4 3) (A 4 4)
def dd0 (_ : Nat → Nat → Int) : Int := 1
set_option maxHeartbeats 8000000 in
set_option maxRecDepth 100000 in
theorem cr1_0 (a00 c0 : Int) : 0 + a00 * (det1 c0) = (det1 a00) * c0 := by
  unfold det1
  grind
set_option maxHeartbeats 8000000 in
set_option maxRecDepth 100000 in
theorem cr2_0 (a00 a01 a10 a11 c0 c1 : Int) : 0 + a00 * (det2 c0 a01 c1 a11) + a01 * (det2 a00 c0 a10 c1) = (det2 a00 a01 a10 a11) * c0 := by
  unfold det2
  grind
set_option maxHeartbeats 8000000 in
set_option maxRecDepth 100000 in
theorem cr2_1 (a00 a01 a10 a11 c0 c1 : Int) : 0 + a10 * (det2 c0 a01 c1 a11) + a11 * (det2 a00 c0 a10 c1) = (det2 a00 a01 a10 a11) * c1 := by
  unfold det2
  grind
set_option maxHeartbeats 8000000 in
set_option maxRecDepth 100000 in
theorem cr3_0 (a00 a01 a02 a10 a11 a12 a20 a21 a22 c0 c1 c2 : Int) : 0 + a00 * (det3 c0 a01 a02 c1 a11 a12 c2 a21 a22) + a01 * (det3 a00 c0 a02 a10 c1 a12 a20 c2 a22) + a02 * (det3 a00 a01 c0 a10 a11 c1 a20 a21 c2) = (det3 a00 a01 a02 a10 a11 a12 a20 a21 a22) * c0 := by
  unfold det3
  grind
set_option maxHeartbeats 8000000 in
set_option maxRecDepth 100000 in
theorem cr3_1 (a00 a01 a02 a10 a11 a12 a20 a21 a22 c0 c1 c2 : Int) : 0 + a10 * (det3 c0 a01 a02 c1 a11 a12 c2 a21 a22) + a11 * (det3 a00 c0 a02 a10 c1 a12 a20 c2 a22) + a12 * (det3 a00 a01 c0 a10 a11 c1 a20 a21 c2) = (det3 a00 a01 a02 a10 a11 a12 a20 a21 a22) * c1 := by
  unfold det3
  grind
set_option maxHeartbeats 8000000 in
set_option maxRecDepth 100000 in
theorem cr3_2 (a00 a01 a02 a10 a11 a12 a20 a21 a22 c0 c1 c2 : Int) : 0 + a20 * (det3 c0 a01 a02 c1 a11 a12 c2 a21 a22) + a21 * (det3 a00 c0 a02 a10 c1 a12 a20 c2 a22) + a22 * (det3 a00 a01 c0 a10 a11 c1 a20 a21 c2) = (det3 a00 a01 a02 a10 a11 a12 a20 a21 a22) * c2 := by
  unfold det3
  grind
set_option maxHeartbeats 8000000 in
set_option maxRecDepth 100000 in
theorem cr4_0 (a00 a01 a02 a03 a10 a11 a12 a13 a20 a21 a22 a23 a30 a31 a32 a33 c0 c1 c2 c3 : Int) : 0 + a00 * (det4 c0 a01 a02 a03 c1 a11 a12 a13 c2 a21 a22 a23 c3 a31 a32 a33) + a01 * (det4 a00 c0 a02 a03 a10 c1 a12 a13 a20 c2 a22 a23 a30 c3 a32 a33) + a02 * (det4 a00 a01 c0 a03 a10 a11 c1 a13 a20 a21 c2 a23 a30 a31 c3 a33) + a03 * (det4 a00 a01 a02 c0 a10 a11 a12 c1 a20 a21 a22 c2 a30 a31 a32 c3) = (det4 a00 a01 a02 a03 a10 a11 a12 a13 a20 a21 a22 a23 a30 a31 a32 a33) * c0 := by
  unfold det4
  grind
set_option maxHeartbeats 8000000 in
set_option maxRecDepth 100000 in
theorem cr4_1 (a00 a01 a02 a03 a10 a11 a12 a13 a20 a21 a22 a23 a30 a31 a32 a33 c0 c1 c2 c3 : Int) : 0 + a10 * (det4 c0 a01 a02 a03 c1 a11 a12 a13 c2 a21 a22 a23 c3 a31 a32 a33) + a11 * (det4 a00 c0 a02 a03 a10 c1 a12 a13 a20 c2 a22 a23 a30 c3 a32 a33) + a12 * (det4 a00 a01 c0 a03 a10 a11 c1 a13 a20 a21 c2 a23 a30 a31 c3 a33) + a13 * (det4 a00 a01 a02 c0 a10 a11 a12 c1 a20 a21 a22 c2 a30 a31 a32 c3) = (det4 a00 a01 a02 a03 a10 a11 a12 a13 a20 a21 a22 a23 a30 a31 a32 a33) * c1 := by
  unfold det4
  grind
set_option maxHeartbeats 8000000 in
set_option maxRecDepth 100000 in
theorem cr4_2 (a00 a01 a02 a03 a10 a11 a12 a13 a20 a21 a22 a23 a30 a31 a32 a33 c0 c1 c2 c3 : Int) : 0 + a20 * (det4 c0 a01 a02 a03 c1 a11 a12 a13 c2 a21 a22 a23 c3 a31 a32 a33) + a21 * (det4 a00 c0 a02 a03 a10 c1 a12 a13 a20 c2 a22 a23 a30 c3 a32 a33) + a22 * (det4 a00 a01 c0 a03 a10 a11 c1 a13 a20 a21 c2 a23 a30 a31 c3 a33) + a23 * (det4 a00 a01 a02 c0 a10 a11 a12 c1 a20 a21 a22 c2 a30 a31 a32 c3) = (det4 a00 a01 a02 a03 a10 a11 a12 a13 a20 a21 a22 a23 a30 a31 a32 a33) * c2 := by
  unfold det4
  grind
set_option maxHeartbeats 8000000 in
set_option maxRecDepth 100000 in
theorem cr4_3 (a00 a01 a02 a03 a10 a11 a12 a13 a20 a21 a22 a23 a30 a31 a32 a33 c0 c1 c2 c3 : Int) : 0 + a30 * (det4 c0 a01 a02 a03 c1 a11 a12 a13 c2 a21 a22 a23 c3 a31 a32 a33) + a31 * (det4 a00 c0 a02 a03 a10 c1 a12 a13 a20 c2 a22 a23 a30 c3 a32 a33) + a32 * (det4 a00 a01 c0 a03 a10 a11 c1 a13 a20 a21 c2 a23 a30 a31 c3 a33) + a33 * (det4 a00 a01 a02 c0 a10 a11 a12 c1 a20 a21 a22 c2 a30 a31 a32 c3) = (det4 a00 a01 a02 a03 a10 a11 a12 a13 a20 a21 a22 a23 a30 a31 a32 a33) * c3 := by
  unfold det4
  grind
set_option maxHeartbeats 8000000 in
set_option maxRecDepth 100000 in
theorem lin1_0 (a00 u0 : Int) : det1 (0 + a00 * u0) = u0 * (det1 a00) := by
  unfold det1
  grind
set_option maxHeartbeats 8000000 in
set_option maxRecDepth 100000 in
theorem hom1_0 (a00 t c0 : Int) : det1 (t * c0) = t * (det1 c0) := by
  unfold det1
  grind
set_option maxHeartbeats 8000000 in
set_option maxRecDepth 100000 in
theorem lin2_0 (a00 a01 a10 a11 u0 u1 : Int) : det2 (0 + a00 * u0 + a01 * u1) a01 (0 + a10 * u0 + a11 * u1) a11 = u0 * (det2 a00 a01 a10 a11) := by
  unfold det2
  grind
set_option maxHeartbeats 8000000 in
set_option maxRecDepth 100000 in
theorem hom2_0 (a00 a01 a10 a11 t c0 c1 : Int) : det2 (t * c0) a01 (t * c1) a11 = t * (det2 c0 a01 c1 a11) := by
  unfold det2
  grind
set_option maxHeartbeats 8000000 in
set_option maxRecDepth 100000 in
theorem lin2_1 (a00 a01 a10 a11 u0 u1 : Int) : det2 a00 (0 + a00 * u0 + a01 * u1) a10 (0 + a10 * u0 + a11 * u1) = u1 * (det2 a00 a01 a10 a11) := by
  unfold det2
  grind
set_option maxHeartbeats 8000000 in
set_option maxRecDepth 100000 in
theorem hom2_1 (a00 a01 a10 a11 t c0 c1 : Int) : det2 a00 (t * c0) a10 (t * c1) = t * (det2 a00 c0 a10 c1) := by
  unfold det2
  grind
set_option maxHeartbeats 8000000 in
set_option maxRecDepth 100000 in
theorem lin3_0 (a00 a01 a02 a10 a11 a12 a20 a21 a22 u0 u1 u2 : Int) : det3 (0 + a00 * u0 + a01 * u1 + a02 * u2) a01 a02 (0 + a10 * u0 + a11 * u1 + a12 * u2) a11 a12 (0 + a20 * u0 + a21 * u1 + a22 * u2) a21 a22 = u0 * (det3 a00 a01 a02 a10 a11 a12 a20 a21 a22) := by
  unfold det3
  grind
set_option maxHeartbeats 8000000 in
set_option maxRecDepth 100000 in
theorem hom3_0 (a00 a01 a02 a10 a11 a12 a20 a21 a22 t c0 c1 c2 : Int) : det3 (t * c0) a01 a02 (t * c1) a11 a12 (t * c2) a21 a22 = t * (det3 c0 a01 a02 c1 a11 a12 c2 a21 a22) := by
  unfold det3
  grind
set_option maxHeartbeats 8000000 in
set_option maxRecDepth 100000 in
theorem lin3_1 (a00 a01 a02 a10 a11 a12 a20 a21 a22 u0 u1 u2 : Int) : det3 a00 (0 + a00 * u0 + a01 * u1 + a02 * u2) a02 a10 (0 + a10 * u0 + a11 * u1 + a12 * u2) a12 a20 (0 + a20 * u0 + a21 * u1 + a22 * u2) a22 = u1 * (det3 a00 a01 a02 a10 a11 a12 a20 a21 a22) := by
  unfold det3
  grind
set_option maxHeartbeats 8000000 in
set_option maxRecDepth 100000 in
theorem hom3_1 (a00 a01 a02 a10 a11 a12 a20 a21 a22 t c0 c1 c2 : Int) : det3 a00 (t * c0) a02 a10 (t * c1) a12 a20 (t * c2) a22 = t * (det3 a00 c0 a02 a10 c1 a12 a20 c2 a22) := by
  unfold det3
  grind
set_option maxHeartbeats 8000000 in
set_option maxRecDepth 100000 in
theorem lin3_2 (a00 a01 a02 a10 a11 a12 a20 a21 a22 u0 u1 u2 : Int) : det3 a00 a01 (0 + a00 * u0 + a01 * u1 + a02 * u2) a10 a11 (0 + a10 * u0 + a11 * u1 + a12 * u2) a20 a21 (0 + a20 * u0 + a21 * u1 + a22 * u2) = u2 * (det3 a00 a01 a02 a10 a11 a12 a20 a21 a22) := by
  unfold det3
  grind
set_option maxHeartbeats 8000000 in
set_option maxRecDepth 100000 in
theorem hom3_2 (a00 a01 a02 a10 a11 a12 a20 a21 a22 t c0 c1 c2 : Int) : det3 a00 a01 (t * c0) a10 a11 (t * c1) a20 a21 (t * c2) = t * (det3 a00 a01 c0 a10 a11 c1 a20 a21 c2) := by
  unfold det3
  grind
set_option maxHeartbeats 8000000 in
set_option maxRecDepth 100000 in
theorem lin4_0 (a00 a01 a02 a03 a10 a11 a12 a13 a20 a21 a22 a23 a30 a31 a32 a33 u0 u1 u2 u3 : Int) : det4 (0 + a00 * u0 + a01 * u1 + a02 * u2 + a03 * u3) a01 a02 a03 (0 + a10 * u0 + a11 * u1 + a12 * u2 + a13 * u3) a11 a12 a13 (0 + a20 * u0 + a21 * u1 + a22 * u2 + a23 * u3) a21 a22 a23 (0 + a30 * u0 + a31 * u1 + a32 * u2 + a33 * u3) a31 a32 a33 = u0 * (det4 a00 a01 a02 a03 a10 a11 a12 a13 a20 a21 a22 a23 a30 a31 a32 a33) := by
  unfold det4
  grind
set_option maxHeartbeats 8000000 in
set_option maxRecDepth 100000 in
theorem hom4_0 (a00 a01 a02 a03 a10 a11 a12 a13 a20 a21 a22 a23 a30 a31 a32 a33 t c0 c1 c2 c3 : Int) : det4 (t * c0) a01 a02 a03 (t * c1) a11 a12 a13 (t * c2) a21 a22 a23 (t * c3) a31 a32 a33 = t * (det4 c0 a01 a02 a03 c1 a11 a12 a13 c2 a21 a22 a23 c3 a31 a32 a33) := by
  unfold det4
  grind
set_option maxHeartbeats 8000000 in
set_option maxRecDepth 100000 in
theorem lin4_1 (a00 a01 a02 a03 a10 a11 a12 a13 a20 a21 a22 a23 a30 a31 a32 a33 u0 u1 u2 u3 : Int) : det4 a00 (0 + a00 * u0 + a01 * u1 + a02 * u2 + a03 * u3) a02 a03 a10 (0 + a10 * u0 + a11 * u1 + a12 * u2 + a13 * u3) a12 a13 a20 (0 + a20 * u0 + a21 * u1 + a22 * u2 + a23 * u3) a22 a23 a30 (0 + a30 * u0 + a31 * u1 + a32 * u2 + a33 * u3) a32 a33 = u1 * (det4 a00 a01 a02 a03 a10 a11 a12 a13 a20 a21 a22 a23 a30 a31 a32 a33) := by
  unfold det4
  grind
set_option maxHeartbeats 8000000 in
set_option maxRecDepth 100000 in
theorem hom4_1 (a00 a01 a02 a03 a10 a11 a12 a13 a20 a21 a22 a23 a30 a31 a32 a33 t c0 c1 c2 c3 : Int) : det4 a00 (t * c0) a02 a03 a10 (t * c1) a12 a13 a20 (t * c2) a22 a23 a30 (t * c3) a32 a33 = t * (det4 a00 c0 a02 a03 a10 c1 a12 a13 a20 c2 a22 a23 a30 c3 a32 a33) := by
  unfold det4
  grind
set_option maxHeartbeats 8000000 in
set_option maxRecDepth 100000 in
theorem lin4_2 (a00 a01 a02 a03 a10 a11 a12 a13 a20 a21 a22 a23 a30 a31 a32 a33 u0 u1 u2 u3 : Int) : det4 a00 a01 (0 + a00 * u0 + a01 * u1 + a02 * u2 + a03 * u3) a03 a10 a11 (0 + a10 * u0 + a11 * u1 + a12 * u2 + a13 * u3) a13 a20 a21 (0 + a20 * u0 + a21 * u1 + a22 * u2 + a23 * u3) a23 a30 a31 (0 + a30 * u0 + a31 * u1 + a32 * u2 + a33 * u3) a33 = u2 * (det4 a00 a01 a02 a03 a10 a11 a12 a13 a20 a21 a22 a23 a30 a31 a32 a33) := by
  unfold det4
  grind
set_option maxHeartbeats 8000000 in
set_option maxRecDepth 100000 in
theorem hom4_2 (a00 a01 a02 a03 a10 a11 a12 a13 a20 a21 a22 a23 a30 a31 a32 a33 t c0 c1 c2 c3 : Int) : det4 a00 a01 (t * c0) a03 a10 a11 (t * c1) a13 a20 a21 (t * c2) a23 a30 a31 (t * c3) a33 = t * (det4 a00 a01 c0 a03 a10 a11 c1 a13 a20 a21 c2 a23 a30 a31 c3 a33) := by
  unfold det4
  grind
set_option maxHeartbeats 8000000 in
set_option maxRecDepth 100000 in
theorem lin4_3 (a00 a01 a02 a03 a10 a11 a12 a13 a20 a21 a22 a23 a30 a31 a32 a33 u0 u1 u2 u3 : Int) : det4 a00 a01 a02 (0 + a00 * u0 + a01 * u1 + a02 * u2 + a03 * u3) a10 a11 a12 (0 + a10 * u0 + a11 * u1 + a12 * u2 + a13 * u3) a20 a21 a22 (0 + a20 * u0 + a21 * u1 + a22 * u2 + a23 * u3) a30 a31 a32 (0 + a30 * u0 + a31 * u1 + a32 * u2 + a33 * u3) = u3 * (det4 a00 a01 a02 a03 a10 a11 a12 a13 a20 a21 a22 a23 a30 a31 a32 a33) := by
  unfold det4
  grind
set_option maxHeartbeats 8000000 in
set_option maxRecDepth 100000 in
theorem hom4_3 (a00 a01 a02 a03 a10 a11 a12 a13 a20 a21 a22 a23 a30 a31 a32 a33 t c0 c1 c2 c3 : Int) : det4 a00 a01 a02 (t * c0) a10 a11 a12 (t * c1) a20 a21 a22 (t * c2) a30 a31 a32 (t * c3) = t * (det4 a00 a01 a02 c0 a10 a11 a12 c1 a20 a21 a22 c2 a30 a31 a32 c3) := by
  unfold det4
  grind
set_option maxHeartbeats 8000000 in
set_option maxRecDepth 100000 in
theorem lin5_0 (a00 a01 a02 a03 a04 a10 a11 a12 a13 a14 a20 a21 a22 a23 a24 a30 a31 a32 a33 a34 a40 a41 a42 a43 a44 u0 u1 u2 u3 u4 : Int) : det5 (0 + a00 * u0 + a01 * u1 + a02 * u2 + a03 * u3 + a04 * u4) a01 a02 a03 a04 (0 + a10 * u0 + a11 * u1 + a12 * u2 + a13 * u3 + a14 * u4) a11 a12 a13 a14 (0 + a20 * u0 + a21 * u1 + a22 * u2 + a23 * u3 + a24 * u4) a21 a22 a23 a24 (0 + a30 * u0 + a31 * u1 + a32 * u2 + a33 * u3 + a34 * u4) a31 a32 a33 a34 (0 + a40 * u0 + a41 * u1 + a42 * u2 + a43 * u3 + a44 * u4) a41 a42 a43 a44 = u0 * (det5 a00 a01 a02 a03 a04 a10 a11 a12 a13 a14 a20 a21 a22 a23 a24 a30 a31 a32 a33 a34 a40 a41 a42 a43 a44) := by
  unfold det5
  grind
set_option maxHeartbeats 8000000 in
set_option maxRecDepth 100000 in
theorem hom5_0 (a00 a01 a02 a03 a04 a10 a11 a12 a13 a14 a20 a21 a22 a23 a24 a30 a31 a32 a33 a34 a40 a41 a42 a43 a44 t c0 c1 c2 c3 c4 : Int) : det5 (t * c0) a01 a02 a03 a04 (t * c1) a11 a12 a13 a14 (t * c2) a21 a22 a23 a24 (t * c3) a31 a32 a33 a34 (t * c4) a41 a42 a43 a44 = t * (det5 c0 a01 a02 a03 a04 c1 a11 a12 a13 a14 c2 a21 a22 a23 a24 c3 a31 a32 a33 a34 c4 a41 a42 a43 a44) := by
  unfold det5
  grind
set_option maxHeartbeats 8000000 in
set_option maxRecDepth 100000 in
theorem lin5_1 (a00 a01 a02 a03 a04 a10 a11 a12 a13 a14 a20 a21 a22 a23 a24 a30 a31 a32 a33 a34 a40 a41 a42 a43 a44 u0 u1 u2 u3 u4 : Int) : det5 a00 (0 + a00 * u0 + a01 * u1 + a02 * u2 + a03 * u3 + a04 * u4) a02 a03 a04 a10 (0 + a10 * u0 + a11 * u1 + a12 * u2 + a13 * u3 + a14 * u4) a12 a13 a14 a20 (0 + a20 * u0 + a21 * u1 + a22 * u2 + a23 * u3 + a24 * u4) a22 a23 a24 a30 (0 + a30 * u0 + a31 * u1 + a32 * u2 + a33 * u3 + a34 * u4) a32 a33 a34 a40 (0 + a40 * u0 + a41 * u1 + a42 * u2 + a43 * u3 + a44 * u4) a42 a43 a44 = u1 * (det5 a00 a01 a02 a03 a04 a10 a11 a12 a13 a14 a20 a21 a22 a23 a24 a30 a31 a32 a33 a34 a40 a41 a42 a43 a44) := by
  unfold det5
  grind
set_option maxHeartbeats 8000000 in
set_option maxRecDepth 100000 in
theorem hom5_1 (a00 a01 a02 a03 a04 a10 a11 a12 a13 a14 a20 a21 a22 a23 a24 a30 a31 a32 a33 a34 a40 a41 a42 a43 a44 t c0 c1 c2 c3 c4 : Int) : det5 a00 (t * c0) a02 a03 a04 a10 (t * c1) a12 a13 a14 a20 (t * c2) a22 a23 a24 a30 (t * c3) a32 a33 a34 a40 (t * c4) a42 a43 a44 = t * (det5 a00 c0 a02 a03 a04 a10 c1 a12 a13 a14 a20 c2 a22 a23 a24 a30 c3 a32 a33 a34 a40 c4 a42 a43 a44) := by
  unfold det5
  grind
set_option maxHeartbeats 8000000 in
set_option maxRecDepth 100000 in
theorem lin5_2 (a00 a01 a02 a03 a04 a10 a11 a12 a13 a14 a20 a21 a22 a23 a24 a30 a31 a32 a33 a34 a40 a41 a42 a43 a44 u0 u1 u2 u3 u4 : Int) : det5 a00 a01 (0 + a00 * u0 + a01 * u1 + a02 * u2 + a03 * u3 + a04 * u4) a03 a04 a10 a11 (0 + a10 * u0 + a11 * u1 + a12 * u2 + a13 * u3 + a14 * u4) a13 a14 a20 a21 (0 + a20 * u0 + a21 * u1 + a22 * u2 + a23 * u3 + a24 * u4) a23 a24 a30 a31 (0 + a30 * u0 + a31 * u1 + a32 * u2 + a33 * u3 + a34 * u4) a33 a34 a40 a41 (0 + a40 * u0 + a41 * u1 + a42 * u2 + a43 * u3 + a44 * u4) a43 a44 = u2 * (det5 a00 a01 a02 a03 a04 a10 a11 a12 a13 a14 a20 a21 a22 a23 a24 a30 a31 a32 a33 a34 a40 a41 a42 a43 a44) := by
  unfold det5
  grind
set_option maxHeartbeats 8000000 in
set_option maxRecDepth 100000 in
theorem hom5_2 (a00 a01 a02 a03 a04 a10 a11 a12 a13 a14 a20 a21 a22 a23 a24 a30 a31 a32 a33 a34 a40 a41 a42 a43 a44 t c0 c1 c2 c3 c4 : Int) : det5 a00 a01 (t * c0) a03 a04 a10 a11 (t * c1) a13 a14 a20 a21 (t * c2) a23 a24 a30 a31 (t * c3) a33 a34 a40 a41 (t * c4) a43 a44 = t * (det5 a00 a01 c0 a03 a04 a10 a11 c1 a13 a14 a20 a21 c2 a23 a24 a30 a31 c3 a33 a34 a40 a41 c4 a43 a44) := by
  unfold det5
  grind
set_option maxHeartbeats 8000000 in
set_option maxRecDepth 100000 in
theorem lin5_3 (a00 a01 a02 a03 a04 a10 a11 a12 a13 a14 a20 a21 a22 a23 a24 a30 a31 a32 a33 a34 a40 a41 a42 a43 a44 u0 u1 u2 u3 u4 : Int) : det5 a00 a01 a02 (0 + a00 * u0 + a01 * u1 + a02 * u2 + a03 * u3 + a04 * u4) a04 a10 a11 a12 (0 + a10 * u0 + a11 * u1 + a12 * u2 + a13 * u3 + a14 * u4) a14 a20 a21 a22 (0 + a20 * u0 + a21 * u1 + a22 * u2 + a23 * u3 + a24 * u4) a24 a30 a31 a32 (0 + a30 * u0 + a31 * u1 + a32 * u2 + a33 * u3 + a34 * u4) a34 a40 a41 a42 (0 + a40 * u0 + a41 * u1 + a42 * u2 + a43 * u3 + a44 * u4) a44 = u3 * (det5 a00 a01 a02 a03 a04 a10 a11 a12 a13 a14 a20 a21 a22 a23 a24 a30 a31 a32 a33 a34 a40 a41 a42 a43 a44) := by
  unfold det5
  grind
set_option maxHeartbeats 8000000 in
set_option maxRecDepth 100000 in
theorem hom5_3 (a00 a01 a02 a03 a04 a10 a11 a12 a13 a14 a20 a21 a22 a23 a24 a30 a31 a32 a33 a34 a40 a41 a42 a43 a44 t c0 c1 c2 c3 c4 : Int) : det5 a00 a01 a02 (t * c0) a04 a10 a11 a12 (t * c1) a14 a20 a21 a22 (t * c2) a24 a30 a31 a32 (t * c3) a34 a40 a41 a42 (t * c4) a44 = t * (det5 a00 a01 a02 c0 a04 a10 a11 a12 c1 a14 a20 a21 a22 c2 a24 a30 a31 a32 c3 a34 a40 a41 a42 c4 a44) := by
  unfold det5
  grind
set_option maxHeartbeats 8000000 in
set_option maxRecDepth 100000 in
theorem lin5_4 (a00 a01 a02 a03 a04 a10 a11 a12 a13 a14 a20 a21 a22 a23 a24 a30 a31 a32 a33 a34 a40 a41 a42 a43 a44 u0 u1 u2 u3 u4 : Int) : det5 a00 a01 a02 a03 (0 + a00 * u0 + a01 * u1 + a02 * u2 + a03 * u3 + a04 * u4) a10 a11 a12 a13 (0 + a10 * u0 + a11 * u1 + a12 * u2 + a13 * u3 + a14 * u4) a20 a21 a22 a23 (0 + a20 * u0 + a21 * u1 + a22 * u2 + a23 * u3 + a24 * u4) a30 a31 a32 a33 (0 + a30 * u0 + a31 * u1 + a32 * u2 + a33 * u3 + a34 * u4) a40 a41 a42 a43 (0 + a40 * u0 + a41 * u1 + a42 * u2 + a43 * u3 + a44 * u4) = u4 * (det5 a00 a01 a02 a03 a04 a10 a11 a12 a13 a14 a20 a21 a22 a23 a24 a30 a31 a32 a33 a34 a40 a41 a42 a43 a44) := by
  unfold det5
  grind
set_option maxHeartbeats 8000000 in
set_option maxRecDepth 100000 in
theorem hom5_4 (a00 a01 a02 a03 a04 a10 a11 a12 a13 a14 a20 a21 a22 a23 a24 a30 a31 a32 a33 a34 a40 a41 a42 a43 a44 t c0 c1 c2 c3 c4 : Int) : det5 a00 a01 a02 a03 (t * c0) a10 a11 a12 a13 (t * c1) a20 a21 a22 a23 (t * c2) a30 a31 a32 a33 (t * c3) a40 a41 a42 a43 (t * c4) = t * (det5 a00 a01 a02 a03 c0 a10 a11 a12 a13 c1 a20 a21 a22 a23 c2 a30 a31 a32 a33 c3 a40 a41 a42 a43 c4) := by
  unfold det5
  grind
set_option maxHeartbeats 8000000 in
set_option maxRecDepth 100000 in
theorem la1 (a00 a10 c0 c1 : Int) : det2 a00 c0 a10 c1 = (det1 a00) * c1 - (0 + a10 * (det1 c0)) := by
  unfold det2 det1
  grind
set_option maxHeartbeats 8000000 in
set_option maxRecDepth 100000 in
theorem la2 (a00 a01 a10 a11 a20 a21 c0 c1 c2 : Int) : det3 a00 a01 c0 a10 a11 c1 a20 a21 c2 = (det2 a00 a01 a10 a11) * c2 - (0 + a20 * (det2 c0 a01 c1 a11) + a21 * (det2 a00 c0 a10 c1)) := by
  unfold det3 det2
  grind
set_option maxHeartbeats 8000000 in
set_option maxRecDepth 100000 in
theorem la3 (a00 a01 a02 a10 a11 a12 a20 a21 a22 a30 a31 a32 c0 c1 c2 c3 : Int) : det4 a00 a01 a02 c0 a10 a11 a12 c1 a20 a21 a22 c2 a30 a31 a32 c3 = (det3 a00 a01 a02 a10 a11 a12 a20 a21 a22) * c3 - (0 + a30 * (det3 c0 a01 a02 c1 a11 a12 c2 a21 a22) + a31 * (det3 a00 c0 a02 a10 c1 a12 a20 c2 a22) + a32 * (det3 a00 a01 c0 a10 a11 c1 a20 a21 c2)) := by
  unfold det4 det3
  grind
set_option maxHeartbeats 8000000 in
set_option maxRecDepth 100000 in
theorem la4 (a00 a01 a02 a03 a10 a11 a12 a13 a20 a21 a22 a23 a30 a31 a32 a33 a40 a41 a42 a43 c0 c1 c2 c3 c4 : Int) : det5 a00 a01 a02 a03 c0 a10 a11 a12 a13 c1 a20 a21 a22 a23 c2 a30 a31 a32 a33 c3 a40 a41 a42 a43 c4 = (det4 a00 a01 a02 a03 a10 a11 a12 a13 a20 a21 a22 a23 a30 a31 a32 a33) * c4 - (0 + a40 * (det4 c0 a01 a02 a03 c1 a11 a12 a13 c2 a21 a22 a23 c3 a31 a32 a33) + a41 * (det4 a00 c0 a02 a03 a10 c1 a12 a13 a20 c2 a22 a23 a30 c3 a32 a33) + a42 * (det4 a00 a01 c0 a03 a10 a11 c1 a13 a20 a21 c2 a23 a30 a31 c3 a33) + a43 * (det4 a00 a01 a02 c0 a10 a11 a12 c1 a20 a21 a22 c2 a30 a31 a32 c3)) := by
  unfold det5 det4
  grind
