theorem aC2 {u : gM} {a : Nat} (h : a < 700) : aB skC u 2 (nI a) = some (u.1 2 a) := aB_at (rs := []) rfl (by decide) h
theorem sC2 {u : gM} {a : Nat} (h : a < 700) {v : Int32} : sB skC u 2 (nI a) v = some (upI u 2 a v.toInt8.toInt32) := sB_at (rs := []) rfl (by decide) h
theorem aC4 {u : gM} {a : Nat} (h : a < 10) : aJ skC u 4 (nI a) = some (u.2 4 a) := aJ_at (rs := []) rfl (by decide) h
theorem sC4 {u : gM} {a : Nat} (h : a < 10) {v : Int64} : sJ skC u 4 (nI a) v = some (upJ u 4 a v) := sJ_at (rs := []) rfl (by decide) h
theorem aC5 {u : gM} {a : Nat} (h : a < 6) : aJ skC u 5 (nI a) = some (u.2 5 a) := aJ_at (rs := []) rfl (by decide) h
theorem sC5 {u : gM} {a : Nat} (h : a < 6) {v : Int64} : sJ skC u 5 (nI a) v = some (upJ u 5 a v) := sJ_at (rs := []) rfl (by decide) h
theorem aC6 {u : gM} {a : Nat} (h : a < 24) : aJ skC u 6 (nI a) = some (u.2 6 a) := aJ_at (rs := []) rfl (by decide) h
theorem sC6 {u : gM} {a : Nat} (h : a < 24) {v : Int64} : sJ skC u 6 (nI a) v = some (upJ u 6 a v) := sJ_at (rs := []) rfl (by decide) h
theorem aC7 {u : gM} {a : Nat} (h : a < 24) : aI skC u 7 (nI a) = some (u.1 7 a) := aI_at (rs := []) rfl (by decide) h
theorem sC7 {u : gM} {a : Nat} (h : a < 24) {v : Int32} : sI skC u 7 (nI a) v = some (upI u 7 a v) := sI_at (rs := []) rfl (by decide) h
theorem aC8 {u : gM} {a : Nat} (h : a < 24) : aI skC u 8 (nI a) = some (u.1 8 a) := aI_at (rs := []) rfl (by decide) h
theorem sC8 {u : gM} {a : Nat} (h : a < 24) {v : Int32} : sI skC u 8 (nI a) v = some (upI u 8 a v) := sI_at (rs := []) rfl (by decide) h
theorem aC9 {u : gM} {a : Nat} (h : a < 24) : aI skC u 9 (nI a) = some (u.1 9 a) := aI_at (rs := []) rfl (by decide) h
theorem sC9 {u : gM} {a : Nat} (h : a < 24) {v : Int32} : sI skC u 9 (nI a) v = some (upI u 9 a v) := sI_at (rs := []) rfl (by decide) h
theorem aC10 {u : gM} {a : Nat} (h : a < 24) : aI skC u 10 (nI a) = some (u.1 10 a) := aI_at (rs := []) rfl (by decide) h
theorem sC10 {u : gM} {a : Nat} (h : a < 24) {v : Int32} : sI skC u 10 (nI a) v = some (upI u 10 a v) := sI_at (rs := []) rfl (by decide) h
theorem aC11 {u : gM} {a : Nat} (h : a < 24) : aI skC u 11 (nI a) = some (u.1 11 a) := aI_at (rs := []) rfl (by decide) h
theorem sC11 {u : gM} {a : Nat} (h : a < 24) {v : Int32} : sI skC u 11 (nI a) v = some (upI u 11 a v) := sI_at (rs := []) rfl (by decide) h
theorem aC12 {u : gM} {a : Nat} (h : a < 24) : aI skC u 12 (nI a) = some (u.1 12 a) := aI_at (rs := []) rfl (by decide) h
theorem sC12 {u : gM} {a : Nat} (h : a < 24) {v : Int32} : sI skC u 12 (nI a) v = some (upI u 12 a v) := sI_at (rs := []) rfl (by decide) h
theorem aC13 {u : gM} {a : Nat} (h : a < 96) : aI skC u 13 (nI a) = some (u.1 13 a) := aI_at (rs := []) rfl (by decide) h
theorem sC13 {u : gM} {a : Nat} (h : a < 96) {v : Int32} : sI skC u 13 (nI a) v = some (upI u 13 a v) := sI_at (rs := []) rfl (by decide) h
theorem aC14 {u : gM} {a : Nat} (h : a < 144) : aJ skC u 14 (nI a) = some (u.2 14 a) := aJ_at (rs := []) rfl (by decide) h
theorem sC14 {u : gM} {a : Nat} (h : a < 144) {v : Int64} : sJ skC u 14 (nI a) v = some (upJ u 14 a v) := sJ_at (rs := []) rfl (by decide) h
theorem aC15 {u : gM} {a : Nat} (h : a < 10) : aI skC u 15 (nI a) = some (u.1 15 a) := aI_at (rs := []) rfl (by decide) h
theorem sC15 {u : gM} {a : Nat} (h : a < 10) {v : Int32} : sI skC u 15 (nI a) v = some (upI u 15 a v) := sI_at (rs := []) rfl (by decide) h
theorem aC16 {u : gM} {a : Nat} (h : a < 10) : aI skC u 16 (nI a) = some (u.1 16 a) := aI_at (rs := []) rfl (by decide) h
theorem sC16 {u : gM} {a : Nat} (h : a < 10) {v : Int32} : sI skC u 16 (nI a) v = some (upI u 16 a v) := sI_at (rs := []) rfl (by decide) h
theorem aC17 {u : gM} {a : Nat} (h : a < 10) : aI skC u 17 (nI a) = some (u.1 17 a) := aI_at (rs := []) rfl (by decide) h
theorem sC17 {u : gM} {a : Nat} (h : a < 10) {v : Int32} : sI skC u 17 (nI a) v = some (upI u 17 a v) := sI_at (rs := []) rfl (by decide) h
theorem aC19 {u : gM} {a : Nat} (h : a < 24) : aI skC u 19 (nI a) = some (u.1 19 a) := aI_at (rs := []) rfl (by decide) h
theorem sC19 {u : gM} {a : Nat} (h : a < 24) {v : Int32} : sI skC u 19 (nI a) v = some (upI u 19 a v) := sI_at (rs := []) rfl (by decide) h
theorem aC20 {u : gM} {a : Nat} (h : a < 10) : aI skC u 20 (nI a) = some (u.1 20 a) := aI_at (rs := []) rfl (by decide) h
theorem sC20 {u : gM} {a : Nat} (h : a < 10) {v : Int32} : sI skC u 20 (nI a) v = some (upI u 20 a v) := sI_at (rs := []) rfl (by decide) h
theorem aC21 {u : gM} {a : Nat} (h : a < 6) : aI skC u 21 (nI a) = some (u.1 21 a) := aI_at (rs := []) rfl (by decide) h
theorem sC21 {u : gM} {a : Nat} (h : a < 6) {v : Int32} : sI skC u 21 (nI a) v = some (upI u 21 a v) := sI_at (rs := []) rfl (by decide) h
theorem aC22 {u : gM} {a : Nat} (h : a < 6) : aI skC u 22 (nI a) = some (u.1 22 a) := aI_at (rs := []) rfl (by decide) h
theorem sC22 {u : gM} {a : Nat} (h : a < 6) {v : Int32} : sI skC u 22 (nI a) v = some (upI u 22 a v) := sI_at (rs := []) rfl (by decide) h
theorem aC23 {u : gM} {a : Nat} (h : a < 6) : aI skC u 23 (nI a) = some (u.1 23 a) := aI_at (rs := []) rfl (by decide) h
theorem sC23 {u : gM} {a : Nat} (h : a < 6) {v : Int32} : sI skC u 23 (nI a) v = some (upI u 23 a v) := sI_at (rs := []) rfl (by decide) h
theorem aC25 {u : gM} {a : Nat} (h : a < 96) : aI skC u 25 (nI a) = some (u.1 25 a) := aI_at (rs := []) rfl (by decide) h
theorem sC25 {u : gM} {a : Nat} (h : a < 96) {v : Int32} : sI skC u 25 (nI a) v = some (upI u 25 a v) := sI_at (rs := []) rfl (by decide) h
theorem aC26 {u : gM} {a : Nat} (h : a < 96) : aI skC u 26 (nI a) = some (u.1 26 a) := aI_at (rs := []) rfl (by decide) h
theorem sC26 {u : gM} {a : Nat} (h : a < 96) {v : Int32} : sI skC u 26 (nI a) v = some (upI u 26 a v) := sI_at (rs := []) rfl (by decide) h
theorem aC27 {u : gM} {a : Nat} (h : a < 96) : aI skC u 27 (nI a) = some (u.1 27 a) := aI_at (rs := []) rfl (by decide) h
theorem sC27 {u : gM} {a : Nat} (h : a < 96) {v : Int32} : sI skC u 27 (nI a) v = some (upI u 27 a v) := sI_at (rs := []) rfl (by decide) h
theorem aC28 {u : gM} {a : Nat} (h : a < 96) : aI skC u 28 (nI a) = some (u.1 28 a) := aI_at (rs := []) rfl (by decide) h
theorem sC28 {u : gM} {a : Nat} (h : a < 96) {v : Int32} : sI skC u 28 (nI a) v = some (upI u 28 a v) := sI_at (rs := []) rfl (by decide) h
theorem aC29 {u : gM} {a : Nat} (h : a < 10) : aI skC u 29 (nI a) = some (u.1 29 a) := aI_at (rs := []) rfl (by decide) h
theorem sC29 {u : gM} {a : Nat} (h : a < 10) {v : Int32} : sI skC u 29 (nI a) v = some (upI u 29 a v) := sI_at (rs := []) rfl (by decide) h
theorem aC33 {u : gM} {a : Nat} (h : a < 24) : aI skC u 33 (nI a) = some (u.1 33 a) := aI_at (rs := []) rfl (by decide) h
theorem sC33 {u : gM} {a : Nat} (h : a < 24) {v : Int32} : sI skC u 33 (nI a) v = some (upI u 33 a v) := sI_at (rs := []) rfl (by decide) h
theorem aC34 {u : gM} {a : Nat} (h : a < 10) : aI skC u 34 (nI a) = some (u.1 34 a) := aI_at (rs := []) rfl (by decide) h
theorem sC34 {u : gM} {a : Nat} (h : a < 10) {v : Int32} : sI skC u 34 (nI a) v = some (upI u 34 a v) := sI_at (rs := []) rfl (by decide) h
theorem aC35 {u : gM} {a : Nat} (h : a < 6) : aI skC u 35 (nI a) = some (u.1 35 a) := aI_at (rs := []) rfl (by decide) h
theorem sC35 {u : gM} {a : Nat} (h : a < 6) {v : Int32} : sI skC u 35 (nI a) v = some (upI u 35 a v) := sI_at (rs := []) rfl (by decide) h
theorem aC36 {u : gM} {a : Nat} (h : a < 6) : aI skC u 36 (nI a) = some (u.1 36 a) := aI_at (rs := []) rfl (by decide) h
theorem sC36 {u : gM} {a : Nat} (h : a < 6) {v : Int32} : sI skC u 36 (nI a) v = some (upI u 36 a v) := sI_at (rs := []) rfl (by decide) h
theorem aC37 {u : gM} {a : Nat} (h : a < 6) : aI skC u 37 (nI a) = some (u.1 37 a) := aI_at (rs := []) rfl (by decide) h
theorem sC37 {u : gM} {a : Nat} (h : a < 6) {v : Int32} : sI skC u 37 (nI a) v = some (upI u 37 a v) := sI_at (rs := []) rfl (by decide) h
theorem aC39 {u : gM} {a : Nat} (h : a < 96) : aI skC u 39 (nI a) = some (u.1 39 a) := aI_at (rs := []) rfl (by decide) h
theorem sC39 {u : gM} {a : Nat} (h : a < 96) {v : Int32} : sI skC u 39 (nI a) v = some (upI u 39 a v) := sI_at (rs := []) rfl (by decide) h
theorem aC40 {u : gM} {a : Nat} (h : a < 96) : aI skC u 40 (nI a) = some (u.1 40 a) := aI_at (rs := []) rfl (by decide) h
theorem sC40 {u : gM} {a : Nat} (h : a < 96) {v : Int32} : sI skC u 40 (nI a) v = some (upI u 40 a v) := sI_at (rs := []) rfl (by decide) h
theorem aC41 {u : gM} {a : Nat} (h : a < 96) : aI skC u 41 (nI a) = some (u.1 41 a) := aI_at (rs := []) rfl (by decide) h
theorem sC41 {u : gM} {a : Nat} (h : a < 96) {v : Int32} : sI skC u 41 (nI a) v = some (upI u 41 a v) := sI_at (rs := []) rfl (by decide) h
theorem aC42 {u : gM} {a : Nat} (h : a < 96) : aI skC u 42 (nI a) = some (u.1 42 a) := aI_at (rs := []) rfl (by decide) h
theorem sC42 {u : gM} {a : Nat} (h : a < 96) {v : Int32} : sI skC u 42 (nI a) v = some (upI u 42 a v) := sI_at (rs := []) rfl (by decide) h
theorem aC43 {u : gM} {a : Nat} (h : a < 10) : aI skC u 43 (nI a) = some (u.1 43 a) := aI_at (rs := []) rfl (by decide) h
theorem sC43 {u : gM} {a : Nat} (h : a < 10) {v : Int32} : sI skC u 43 (nI a) v = some (upI u 43 a v) := sI_at (rs := []) rfl (by decide) h
theorem aC45 {u : gM} {a : Nat} (h : a < 24) : aI skC u 45 (nI a) = some (u.1 45 a) := aI_at (rs := []) rfl (by decide) h
theorem sC45 {u : gM} {a : Nat} (h : a < 24) {v : Int32} : sI skC u 45 (nI a) v = some (upI u 45 a v) := sI_at (rs := []) rfl (by decide) h
theorem aC46 {u : gM} {a : Nat} (h : a < 10) : aI skC u 46 (nI a) = some (u.1 46 a) := aI_at (rs := []) rfl (by decide) h
theorem sC46 {u : gM} {a : Nat} (h : a < 10) {v : Int32} : sI skC u 46 (nI a) v = some (upI u 46 a v) := sI_at (rs := []) rfl (by decide) h
theorem aC47 {u : gM} {a : Nat} (h : a < 6) : aI skC u 47 (nI a) = some (u.1 47 a) := aI_at (rs := []) rfl (by decide) h
theorem sC47 {u : gM} {a : Nat} (h : a < 6) {v : Int32} : sI skC u 47 (nI a) v = some (upI u 47 a v) := sI_at (rs := []) rfl (by decide) h
theorem aC48 {u : gM} {a : Nat} (h : a < 6) : aI skC u 48 (nI a) = some (u.1 48 a) := aI_at (rs := []) rfl (by decide) h
theorem sC48 {u : gM} {a : Nat} (h : a < 6) {v : Int32} : sI skC u 48 (nI a) v = some (upI u 48 a v) := sI_at (rs := []) rfl (by decide) h
theorem aC49 {u : gM} {a : Nat} (h : a < 6) : aI skC u 49 (nI a) = some (u.1 49 a) := aI_at (rs := []) rfl (by decide) h
theorem sC49 {u : gM} {a : Nat} (h : a < 6) {v : Int32} : sI skC u 49 (nI a) v = some (upI u 49 a v) := sI_at (rs := []) rfl (by decide) h
theorem aC51 {u : gM} {a : Nat} (h : a < 96) : aI skC u 51 (nI a) = some (u.1 51 a) := aI_at (rs := []) rfl (by decide) h
theorem sC51 {u : gM} {a : Nat} (h : a < 96) {v : Int32} : sI skC u 51 (nI a) v = some (upI u 51 a v) := sI_at (rs := []) rfl (by decide) h
theorem aC52 {u : gM} {a : Nat} (h : a < 96) : aI skC u 52 (nI a) = some (u.1 52 a) := aI_at (rs := []) rfl (by decide) h
theorem sC52 {u : gM} {a : Nat} (h : a < 96) {v : Int32} : sI skC u 52 (nI a) v = some (upI u 52 a v) := sI_at (rs := []) rfl (by decide) h
theorem aC53 {u : gM} {a : Nat} (h : a < 96) : aI skC u 53 (nI a) = some (u.1 53 a) := aI_at (rs := []) rfl (by decide) h
theorem sC53 {u : gM} {a : Nat} (h : a < 96) {v : Int32} : sI skC u 53 (nI a) v = some (upI u 53 a v) := sI_at (rs := []) rfl (by decide) h
theorem aC54 {u : gM} {a : Nat} (h : a < 96) : aI skC u 54 (nI a) = some (u.1 54 a) := aI_at (rs := []) rfl (by decide) h
theorem sC54 {u : gM} {a : Nat} (h : a < 96) {v : Int32} : sI skC u 54 (nI a) v = some (upI u 54 a v) := sI_at (rs := []) rfl (by decide) h
theorem aC55 {u : gM} {a : Nat} (h : a < 10) : aI skC u 55 (nI a) = some (u.1 55 a) := aI_at (rs := []) rfl (by decide) h
theorem sC55 {u : gM} {a : Nat} (h : a < 10) {v : Int32} : sI skC u 55 (nI a) v = some (upI u 55 a v) := sI_at (rs := []) rfl (by decide) h
theorem aC57 {u : gM} {a : Nat} (h : a < 24) : aI skC u 57 (nI a) = some (u.1 57 a) := aI_at (rs := []) rfl (by decide) h
theorem sC57 {u : gM} {a : Nat} (h : a < 24) {v : Int32} : sI skC u 57 (nI a) v = some (upI u 57 a v) := sI_at (rs := []) rfl (by decide) h
theorem aC58 {u : gM} {a : Nat} (h : a < 10) : aI skC u 58 (nI a) = some (u.1 58 a) := aI_at (rs := []) rfl (by decide) h
theorem sC58 {u : gM} {a : Nat} (h : a < 10) {v : Int32} : sI skC u 58 (nI a) v = some (upI u 58 a v) := sI_at (rs := []) rfl (by decide) h
theorem aC59 {u : gM} {a : Nat} (h : a < 6) : aI skC u 59 (nI a) = some (u.1 59 a) := aI_at (rs := []) rfl (by decide) h
theorem sC59 {u : gM} {a : Nat} (h : a < 6) {v : Int32} : sI skC u 59 (nI a) v = some (upI u 59 a v) := sI_at (rs := []) rfl (by decide) h
theorem aC60 {u : gM} {a : Nat} (h : a < 6) : aI skC u 60 (nI a) = some (u.1 60 a) := aI_at (rs := []) rfl (by decide) h
theorem sC60 {u : gM} {a : Nat} (h : a < 6) {v : Int32} : sI skC u 60 (nI a) v = some (upI u 60 a v) := sI_at (rs := []) rfl (by decide) h
theorem aC61 {u : gM} {a : Nat} (h : a < 6) : aI skC u 61 (nI a) = some (u.1 61 a) := aI_at (rs := []) rfl (by decide) h
theorem sC61 {u : gM} {a : Nat} (h : a < 6) {v : Int32} : sI skC u 61 (nI a) v = some (upI u 61 a v) := sI_at (rs := []) rfl (by decide) h
theorem aC63 {u : gM} {a : Nat} (h : a < 96) : aI skC u 63 (nI a) = some (u.1 63 a) := aI_at (rs := []) rfl (by decide) h
theorem sC63 {u : gM} {a : Nat} (h : a < 96) {v : Int32} : sI skC u 63 (nI a) v = some (upI u 63 a v) := sI_at (rs := []) rfl (by decide) h
theorem aC64 {u : gM} {a : Nat} (h : a < 96) : aI skC u 64 (nI a) = some (u.1 64 a) := aI_at (rs := []) rfl (by decide) h
theorem sC64 {u : gM} {a : Nat} (h : a < 96) {v : Int32} : sI skC u 64 (nI a) v = some (upI u 64 a v) := sI_at (rs := []) rfl (by decide) h
theorem aC65 {u : gM} {a : Nat} (h : a < 96) : aI skC u 65 (nI a) = some (u.1 65 a) := aI_at (rs := []) rfl (by decide) h
theorem sC65 {u : gM} {a : Nat} (h : a < 96) {v : Int32} : sI skC u 65 (nI a) v = some (upI u 65 a v) := sI_at (rs := []) rfl (by decide) h
theorem aC66 {u : gM} {a : Nat} (h : a < 96) : aI skC u 66 (nI a) = some (u.1 66 a) := aI_at (rs := []) rfl (by decide) h
theorem sC66 {u : gM} {a : Nat} (h : a < 96) {v : Int32} : sI skC u 66 (nI a) v = some (upI u 66 a v) := sI_at (rs := []) rfl (by decide) h
theorem aC67 {u : gM} {a : Nat} (h : a < 10) : aI skC u 67 (nI a) = some (u.1 67 a) := aI_at (rs := []) rfl (by decide) h
theorem sC67 {u : gM} {a : Nat} (h : a < 10) {v : Int32} : sI skC u 67 (nI a) v = some (upI u 67 a v) := sI_at (rs := []) rfl (by decide) h
theorem aC69 {u : gM} {a : Nat} (h : a < 24) : aI skC u 69 (nI a) = some (u.1 69 a) := aI_at (rs := []) rfl (by decide) h
theorem sC69 {u : gM} {a : Nat} (h : a < 24) {v : Int32} : sI skC u 69 (nI a) v = some (upI u 69 a v) := sI_at (rs := []) rfl (by decide) h
theorem aC70 {u : gM} {a : Nat} (h : a < 10) : aI skC u 70 (nI a) = some (u.1 70 a) := aI_at (rs := []) rfl (by decide) h
theorem sC70 {u : gM} {a : Nat} (h : a < 10) {v : Int32} : sI skC u 70 (nI a) v = some (upI u 70 a v) := sI_at (rs := []) rfl (by decide) h
theorem aC71 {u : gM} {a : Nat} (h : a < 6) : aI skC u 71 (nI a) = some (u.1 71 a) := aI_at (rs := []) rfl (by decide) h
theorem sC71 {u : gM} {a : Nat} (h : a < 6) {v : Int32} : sI skC u 71 (nI a) v = some (upI u 71 a v) := sI_at (rs := []) rfl (by decide) h
theorem aC72 {u : gM} {a : Nat} (h : a < 6) : aI skC u 72 (nI a) = some (u.1 72 a) := aI_at (rs := []) rfl (by decide) h
theorem sC72 {u : gM} {a : Nat} (h : a < 6) {v : Int32} : sI skC u 72 (nI a) v = some (upI u 72 a v) := sI_at (rs := []) rfl (by decide) h
theorem aC73 {u : gM} {a : Nat} (h : a < 6) : aI skC u 73 (nI a) = some (u.1 73 a) := aI_at (rs := []) rfl (by decide) h
theorem sC73 {u : gM} {a : Nat} (h : a < 6) {v : Int32} : sI skC u 73 (nI a) v = some (upI u 73 a v) := sI_at (rs := []) rfl (by decide) h
theorem aC75 {u : gM} {a : Nat} (h : a < 96) : aI skC u 75 (nI a) = some (u.1 75 a) := aI_at (rs := []) rfl (by decide) h
theorem sC75 {u : gM} {a : Nat} (h : a < 96) {v : Int32} : sI skC u 75 (nI a) v = some (upI u 75 a v) := sI_at (rs := []) rfl (by decide) h
theorem aC76 {u : gM} {a : Nat} (h : a < 96) : aI skC u 76 (nI a) = some (u.1 76 a) := aI_at (rs := []) rfl (by decide) h
theorem sC76 {u : gM} {a : Nat} (h : a < 96) {v : Int32} : sI skC u 76 (nI a) v = some (upI u 76 a v) := sI_at (rs := []) rfl (by decide) h
theorem aC77 {u : gM} {a : Nat} (h : a < 96) : aI skC u 77 (nI a) = some (u.1 77 a) := aI_at (rs := []) rfl (by decide) h
theorem sC77 {u : gM} {a : Nat} (h : a < 96) {v : Int32} : sI skC u 77 (nI a) v = some (upI u 77 a v) := sI_at (rs := []) rfl (by decide) h
theorem aC78 {u : gM} {a : Nat} (h : a < 96) : aI skC u 78 (nI a) = some (u.1 78 a) := aI_at (rs := []) rfl (by decide) h
theorem sC78 {u : gM} {a : Nat} (h : a < 96) {v : Int32} : sI skC u 78 (nI a) v = some (upI u 78 a v) := sI_at (rs := []) rfl (by decide) h
theorem aC79 {u : gM} {a : Nat} (h : a < 10) : aI skC u 79 (nI a) = some (u.1 79 a) := aI_at (rs := []) rfl (by decide) h
theorem sC79 {u : gM} {a : Nat} (h : a < 10) {v : Int32} : sI skC u 79 (nI a) v = some (upI u 79 a v) := sI_at (rs := []) rfl (by decide) h
theorem aC81 {u : gM} {a : Nat} (h : a < 24) : aI skC u 81 (nI a) = some (u.1 81 a) := aI_at (rs := []) rfl (by decide) h
theorem sC81 {u : gM} {a : Nat} (h : a < 24) {v : Int32} : sI skC u 81 (nI a) v = some (upI u 81 a v) := sI_at (rs := []) rfl (by decide) h
theorem aC82 {u : gM} {a : Nat} (h : a < 10) : aI skC u 82 (nI a) = some (u.1 82 a) := aI_at (rs := []) rfl (by decide) h
theorem sC82 {u : gM} {a : Nat} (h : a < 10) {v : Int32} : sI skC u 82 (nI a) v = some (upI u 82 a v) := sI_at (rs := []) rfl (by decide) h
theorem aC83 {u : gM} {a : Nat} (h : a < 6) : aI skC u 83 (nI a) = some (u.1 83 a) := aI_at (rs := []) rfl (by decide) h
theorem sC83 {u : gM} {a : Nat} (h : a < 6) {v : Int32} : sI skC u 83 (nI a) v = some (upI u 83 a v) := sI_at (rs := []) rfl (by decide) h
theorem aC84 {u : gM} {a : Nat} (h : a < 6) : aI skC u 84 (nI a) = some (u.1 84 a) := aI_at (rs := []) rfl (by decide) h
theorem sC84 {u : gM} {a : Nat} (h : a < 6) {v : Int32} : sI skC u 84 (nI a) v = some (upI u 84 a v) := sI_at (rs := []) rfl (by decide) h
theorem aC85 {u : gM} {a : Nat} (h : a < 6) : aI skC u 85 (nI a) = some (u.1 85 a) := aI_at (rs := []) rfl (by decide) h
theorem sC85 {u : gM} {a : Nat} (h : a < 6) {v : Int32} : sI skC u 85 (nI a) v = some (upI u 85 a v) := sI_at (rs := []) rfl (by decide) h
theorem aC87 {u : gM} {a : Nat} (h : a < 96) : aI skC u 87 (nI a) = some (u.1 87 a) := aI_at (rs := []) rfl (by decide) h
theorem sC87 {u : gM} {a : Nat} (h : a < 96) {v : Int32} : sI skC u 87 (nI a) v = some (upI u 87 a v) := sI_at (rs := []) rfl (by decide) h
theorem aC88 {u : gM} {a : Nat} (h : a < 96) : aI skC u 88 (nI a) = some (u.1 88 a) := aI_at (rs := []) rfl (by decide) h
theorem sC88 {u : gM} {a : Nat} (h : a < 96) {v : Int32} : sI skC u 88 (nI a) v = some (upI u 88 a v) := sI_at (rs := []) rfl (by decide) h
theorem aC89 {u : gM} {a : Nat} (h : a < 96) : aI skC u 89 (nI a) = some (u.1 89 a) := aI_at (rs := []) rfl (by decide) h
theorem sC89 {u : gM} {a : Nat} (h : a < 96) {v : Int32} : sI skC u 89 (nI a) v = some (upI u 89 a v) := sI_at (rs := []) rfl (by decide) h
theorem aC90 {u : gM} {a : Nat} (h : a < 96) : aI skC u 90 (nI a) = some (u.1 90 a) := aI_at (rs := []) rfl (by decide) h
theorem sC90 {u : gM} {a : Nat} (h : a < 96) {v : Int32} : sI skC u 90 (nI a) v = some (upI u 90 a v) := sI_at (rs := []) rfl (by decide) h
theorem aC91 {u : gM} {a : Nat} (h : a < 10) : aI skC u 91 (nI a) = some (u.1 91 a) := aI_at (rs := []) rfl (by decide) h
theorem sC91 {u : gM} {a : Nat} (h : a < 10) {v : Int32} : sI skC u 91 (nI a) v = some (upI u 91 a v) := sI_at (rs := []) rfl (by decide) h
theorem aC93 {u : gM} {a : Nat} (h : a < 24) : aI skC u 93 (nI a) = some (u.1 93 a) := aI_at (rs := []) rfl (by decide) h
theorem sC93 {u : gM} {a : Nat} (h : a < 24) {v : Int32} : sI skC u 93 (nI a) v = some (upI u 93 a v) := sI_at (rs := []) rfl (by decide) h
theorem aC94 {u : gM} {a : Nat} (h : a < 10) : aI skC u 94 (nI a) = some (u.1 94 a) := aI_at (rs := []) rfl (by decide) h
theorem sC94 {u : gM} {a : Nat} (h : a < 10) {v : Int32} : sI skC u 94 (nI a) v = some (upI u 94 a v) := sI_at (rs := []) rfl (by decide) h
theorem aC95 {u : gM} {a : Nat} (h : a < 6) : aI skC u 95 (nI a) = some (u.1 95 a) := aI_at (rs := []) rfl (by decide) h
theorem sC95 {u : gM} {a : Nat} (h : a < 6) {v : Int32} : sI skC u 95 (nI a) v = some (upI u 95 a v) := sI_at (rs := []) rfl (by decide) h
theorem aC96 {u : gM} {a : Nat} (h : a < 6) : aI skC u 96 (nI a) = some (u.1 96 a) := aI_at (rs := []) rfl (by decide) h
theorem sC96 {u : gM} {a : Nat} (h : a < 6) {v : Int32} : sI skC u 96 (nI a) v = some (upI u 96 a v) := sI_at (rs := []) rfl (by decide) h
theorem aC97 {u : gM} {a : Nat} (h : a < 6) : aI skC u 97 (nI a) = some (u.1 97 a) := aI_at (rs := []) rfl (by decide) h
theorem sC97 {u : gM} {a : Nat} (h : a < 6) {v : Int32} : sI skC u 97 (nI a) v = some (upI u 97 a v) := sI_at (rs := []) rfl (by decide) h
theorem aC99 {u : gM} {a : Nat} (h : a < 96) : aI skC u 99 (nI a) = some (u.1 99 a) := aI_at (rs := []) rfl (by decide) h
theorem sC99 {u : gM} {a : Nat} (h : a < 96) {v : Int32} : sI skC u 99 (nI a) v = some (upI u 99 a v) := sI_at (rs := []) rfl (by decide) h
theorem aC100 {u : gM} {a : Nat} (h : a < 96) : aI skC u 100 (nI a) = some (u.1 100 a) := aI_at (rs := []) rfl (by decide) h
theorem sC100 {u : gM} {a : Nat} (h : a < 96) {v : Int32} : sI skC u 100 (nI a) v = some (upI u 100 a v) := sI_at (rs := []) rfl (by decide) h
theorem aC101 {u : gM} {a : Nat} (h : a < 96) : aI skC u 101 (nI a) = some (u.1 101 a) := aI_at (rs := []) rfl (by decide) h
theorem sC101 {u : gM} {a : Nat} (h : a < 96) {v : Int32} : sI skC u 101 (nI a) v = some (upI u 101 a v) := sI_at (rs := []) rfl (by decide) h
theorem aC102 {u : gM} {a : Nat} (h : a < 96) : aI skC u 102 (nI a) = some (u.1 102 a) := aI_at (rs := []) rfl (by decide) h
theorem sC102 {u : gM} {a : Nat} (h : a < 96) {v : Int32} : sI skC u 102 (nI a) v = some (upI u 102 a v) := sI_at (rs := []) rfl (by decide) h
theorem aC103 {u : gM} {a : Nat} (h : a < 10) : aI skC u 103 (nI a) = some (u.1 103 a) := aI_at (rs := []) rfl (by decide) h
theorem sC103 {u : gM} {a : Nat} (h : a < 10) {v : Int32} : sI skC u 103 (nI a) v = some (upI u 103 a v) := sI_at (rs := []) rfl (by decide) h
theorem aC105 {u : gM} {a : Nat} (h : a < 24) : aI skC u 105 (nI a) = some (u.1 105 a) := aI_at (rs := []) rfl (by decide) h
theorem sC105 {u : gM} {a : Nat} (h : a < 24) {v : Int32} : sI skC u 105 (nI a) v = some (upI u 105 a v) := sI_at (rs := []) rfl (by decide) h
theorem aC106 {u : gM} {a : Nat} (h : a < 10) : aI skC u 106 (nI a) = some (u.1 106 a) := aI_at (rs := []) rfl (by decide) h
theorem sC106 {u : gM} {a : Nat} (h : a < 10) {v : Int32} : sI skC u 106 (nI a) v = some (upI u 106 a v) := sI_at (rs := []) rfl (by decide) h
theorem aC107 {u : gM} {a : Nat} (h : a < 6) : aI skC u 107 (nI a) = some (u.1 107 a) := aI_at (rs := []) rfl (by decide) h
theorem sC107 {u : gM} {a : Nat} (h : a < 6) {v : Int32} : sI skC u 107 (nI a) v = some (upI u 107 a v) := sI_at (rs := []) rfl (by decide) h
theorem aC108 {u : gM} {a : Nat} (h : a < 6) : aI skC u 108 (nI a) = some (u.1 108 a) := aI_at (rs := []) rfl (by decide) h
theorem sC108 {u : gM} {a : Nat} (h : a < 6) {v : Int32} : sI skC u 108 (nI a) v = some (upI u 108 a v) := sI_at (rs := []) rfl (by decide) h
theorem aC109 {u : gM} {a : Nat} (h : a < 6) : aI skC u 109 (nI a) = some (u.1 109 a) := aI_at (rs := []) rfl (by decide) h
theorem sC109 {u : gM} {a : Nat} (h : a < 6) {v : Int32} : sI skC u 109 (nI a) v = some (upI u 109 a v) := sI_at (rs := []) rfl (by decide) h
theorem aC111 {u : gM} {a : Nat} (h : a < 96) : aI skC u 111 (nI a) = some (u.1 111 a) := aI_at (rs := []) rfl (by decide) h
theorem sC111 {u : gM} {a : Nat} (h : a < 96) {v : Int32} : sI skC u 111 (nI a) v = some (upI u 111 a v) := sI_at (rs := []) rfl (by decide) h
theorem aC112 {u : gM} {a : Nat} (h : a < 96) : aI skC u 112 (nI a) = some (u.1 112 a) := aI_at (rs := []) rfl (by decide) h
theorem sC112 {u : gM} {a : Nat} (h : a < 96) {v : Int32} : sI skC u 112 (nI a) v = some (upI u 112 a v) := sI_at (rs := []) rfl (by decide) h
theorem aC113 {u : gM} {a : Nat} (h : a < 96) : aI skC u 113 (nI a) = some (u.1 113 a) := aI_at (rs := []) rfl (by decide) h
theorem sC113 {u : gM} {a : Nat} (h : a < 96) {v : Int32} : sI skC u 113 (nI a) v = some (upI u 113 a v) := sI_at (rs := []) rfl (by decide) h
theorem aC114 {u : gM} {a : Nat} (h : a < 96) : aI skC u 114 (nI a) = some (u.1 114 a) := aI_at (rs := []) rfl (by decide) h
theorem sC114 {u : gM} {a : Nat} (h : a < 96) {v : Int32} : sI skC u 114 (nI a) v = some (upI u 114 a v) := sI_at (rs := []) rfl (by decide) h
theorem aC115 {u : gM} {a : Nat} (h : a < 10) : aI skC u 115 (nI a) = some (u.1 115 a) := aI_at (rs := []) rfl (by decide) h
theorem sC115 {u : gM} {a : Nat} (h : a < 10) {v : Int32} : sI skC u 115 (nI a) v = some (upI u 115 a v) := sI_at (rs := []) rfl (by decide) h
theorem aC118 {u : gM} {a : Nat} (h : a < 10) : aJ skC u 118 (nI a) = some (u.2 118 a) := aJ_at (rs := []) rfl (by decide) h
theorem sC118 {u : gM} {a : Nat} (h : a < 10) {v : Int64} : sJ skC u 118 (nI a) v = some (upJ u 118 a v) := sJ_at (rs := []) rfl (by decide) h
theorem aC119 {u : gM} {a : Nat} (h : a < 6) : aJ skC u 119 (nI a) = some (u.2 119 a) := aJ_at (rs := []) rfl (by decide) h
theorem sC119 {u : gM} {a : Nat} (h : a < 6) {v : Int64} : sJ skC u 119 (nI a) v = some (upJ u 119 a v) := sJ_at (rs := []) rfl (by decide) h
theorem aC120 {u : gM} {a : Nat} (h : a < 24) : aJ skC u 120 (nI a) = some (u.2 120 a) := aJ_at (rs := []) rfl (by decide) h
theorem sC120 {u : gM} {a : Nat} (h : a < 24) {v : Int64} : sJ skC u 120 (nI a) v = some (upJ u 120 a v) := sJ_at (rs := []) rfl (by decide) h
theorem aC121 {u : gM} {a : Nat} (h : a < 24) : aI skC u 121 (nI a) = some (u.1 121 a) := aI_at (rs := []) rfl (by decide) h
theorem sC121 {u : gM} {a : Nat} (h : a < 24) {v : Int32} : sI skC u 121 (nI a) v = some (upI u 121 a v) := sI_at (rs := []) rfl (by decide) h
theorem aC122 {u : gM} {a : Nat} (h : a < 24) : aI skC u 122 (nI a) = some (u.1 122 a) := aI_at (rs := []) rfl (by decide) h
theorem sC122 {u : gM} {a : Nat} (h : a < 24) {v : Int32} : sI skC u 122 (nI a) v = some (upI u 122 a v) := sI_at (rs := []) rfl (by decide) h
theorem aC123 {u : gM} {a : Nat} (h : a < 24) : aI skC u 123 (nI a) = some (u.1 123 a) := aI_at (rs := []) rfl (by decide) h
theorem sC123 {u : gM} {a : Nat} (h : a < 24) {v : Int32} : sI skC u 123 (nI a) v = some (upI u 123 a v) := sI_at (rs := []) rfl (by decide) h
theorem aC124 {u : gM} {a : Nat} (h : a < 24) : aI skC u 124 (nI a) = some (u.1 124 a) := aI_at (rs := []) rfl (by decide) h
theorem sC124 {u : gM} {a : Nat} (h : a < 24) {v : Int32} : sI skC u 124 (nI a) v = some (upI u 124 a v) := sI_at (rs := []) rfl (by decide) h
theorem aC125 {u : gM} {a : Nat} (h : a < 24) : aI skC u 125 (nI a) = some (u.1 125 a) := aI_at (rs := []) rfl (by decide) h
theorem sC125 {u : gM} {a : Nat} (h : a < 24) {v : Int32} : sI skC u 125 (nI a) v = some (upI u 125 a v) := sI_at (rs := []) rfl (by decide) h
theorem aC126 {u : gM} {a : Nat} (h : a < 24) : aI skC u 126 (nI a) = some (u.1 126 a) := aI_at (rs := []) rfl (by decide) h
theorem sC126 {u : gM} {a : Nat} (h : a < 24) {v : Int32} : sI skC u 126 (nI a) v = some (upI u 126 a v) := sI_at (rs := []) rfl (by decide) h
theorem aC127 {u : gM} {a : Nat} (h : a < 96) : aI skC u 127 (nI a) = some (u.1 127 a) := aI_at (rs := []) rfl (by decide) h
theorem sC127 {u : gM} {a : Nat} (h : a < 96) {v : Int32} : sI skC u 127 (nI a) v = some (upI u 127 a v) := sI_at (rs := []) rfl (by decide) h
theorem aC128 {u : gM} {a : Nat} (h : a < 144) : aJ skC u 128 (nI a) = some (u.2 128 a) := aJ_at (rs := []) rfl (by decide) h
theorem sC128 {u : gM} {a : Nat} (h : a < 144) {v : Int64} : sJ skC u 128 (nI a) v = some (upJ u 128 a v) := sJ_at (rs := []) rfl (by decide) h
theorem aC129 {u : gM} {a : Nat} (h : a < 10) : aI skC u 129 (nI a) = some (u.1 129 a) := aI_at (rs := []) rfl (by decide) h
theorem sC129 {u : gM} {a : Nat} (h : a < 10) {v : Int32} : sI skC u 129 (nI a) v = some (upI u 129 a v) := sI_at (rs := []) rfl (by decide) h
theorem aC130 {u : gM} {a : Nat} (h : a < 10) : aI skC u 130 (nI a) = some (u.1 130 a) := aI_at (rs := []) rfl (by decide) h
theorem sC130 {u : gM} {a : Nat} (h : a < 10) {v : Int32} : sI skC u 130 (nI a) v = some (upI u 130 a v) := sI_at (rs := []) rfl (by decide) h
theorem aC131 {u : gM} {a : Nat} (h : a < 10) : aI skC u 131 (nI a) = some (u.1 131 a) := aI_at (rs := []) rfl (by decide) h
theorem sC131 {u : gM} {a : Nat} (h : a < 10) {v : Int32} : sI skC u 131 (nI a) v = some (upI u 131 a v) := sI_at (rs := []) rfl (by decide) h
theorem aC133 {u : gM} {a : Nat} (h : a < 117) : aI skC u 133 (nI a) = some (u.1 133 a) := aI_at (rs := []) rfl (by decide) h
theorem sC133 {u : gM} {a : Nat} (h : a < 117) {v : Int32} : sI skC u 133 (nI a) v = some (upI u 133 a v) := sI_at (rs := []) rfl (by decide) h
theorem aC134 {u : gM} {a : Nat} (h : a < 117) : aI skC u 134 (nI a) = some (u.1 134 a) := aI_at (rs := []) rfl (by decide) h
theorem sC134 {u : gM} {a : Nat} (h : a < 117) {v : Int32} : sI skC u 134 (nI a) v = some (upI u 134 a v) := sI_at (rs := []) rfl (by decide) h
theorem aC135 {u : gM} {a : Nat} (h : a < 117) : aI skC u 135 (nI a) = some (u.1 135 a) := aI_at (rs := []) rfl (by decide) h
theorem sC135 {u : gM} {a : Nat} (h : a < 117) {v : Int32} : sI skC u 135 (nI a) v = some (upI u 135 a v) := sI_at (rs := []) rfl (by decide) h
theorem aC137 {u : gM} {a : Nat} (h : a < 96) : aI skC u 137 (nI a) = some (u.1 137 a) := aI_at (rs := []) rfl (by decide) h
theorem sC137 {u : gM} {a : Nat} (h : a < 96) {v : Int32} : sI skC u 137 (nI a) v = some (upI u 137 a v) := sI_at (rs := []) rfl (by decide) h
theorem aC139 {u : gM} {a : Nat} (h : a < 97) : aJ skC u 139 (nI a) = some (u.2 139 a) := aJ_at (rs := []) rfl (by decide) h
theorem sC139 {u : gM} {a : Nat} (h : a < 97) {v : Int64} : sJ skC u 139 (nI a) v = some (upJ u 139 a v) := sJ_at (rs := []) rfl (by decide) h
theorem aC140 {u : gM} {a : Nat} (h : a < 97) : aJ skC u 140 (nI a) = some (u.2 140 a) := aJ_at (rs := []) rfl (by decide) h
theorem sC140 {u : gM} {a : Nat} (h : a < 97) {v : Int64} : sJ skC u 140 (nI a) v = some (upJ u 140 a v) := sJ_at (rs := []) rfl (by decide) h
theorem aC141 {u : gM} {a : Nat} (h : a < 97) : aJ skC u 141 (nI a) = some (u.2 141 a) := aJ_at (rs := []) rfl (by decide) h
theorem sC141 {u : gM} {a : Nat} (h : a < 97) {v : Int64} : sJ skC u 141 (nI a) v = some (upJ u 141 a v) := sJ_at (rs := []) rfl (by decide) h
theorem aC142 {u : gM} {a : Nat} (h : a < 24) : aI skC u 142 (nI a) = some (u.1 142 a) := aI_at (rs := []) rfl (by decide) h
theorem sC142 {u : gM} {a : Nat} (h : a < 24) {v : Int32} : sI skC u 142 (nI a) v = some (upI u 142 a v) := sI_at (rs := []) rfl (by decide) h
theorem aC143 {u : gM} {a : Nat} (h : a < 24) : aI skC u 143 (nI a) = some (u.1 143 a) := aI_at (rs := []) rfl (by decide) h
theorem sC143 {u : gM} {a : Nat} (h : a < 24) {v : Int32} : sI skC u 143 (nI a) v = some (upI u 143 a v) := sI_at (rs := []) rfl (by decide) h
theorem aC144 {u : gM} {a : Nat} (h : a < 5) : aJ skC u 144 (nI a) = some (u.2 144 a) := aJ_at (rs := []) rfl (by decide) h
theorem sC144 {u : gM} {a : Nat} (h : a < 5) {v : Int64} : sJ skC u 144 (nI a) v = some (upJ u 144 a v) := sJ_at (rs := []) rfl (by decide) h
theorem aC147 {u : gM} {a : Nat} (h : a < 97) : aJ skC u 147 (nI a) = some (u.2 147 a) := aJ_at (rs := []) rfl (by decide) h
theorem sC147 {u : gM} {a : Nat} (h : a < 97) {v : Int64} : sJ skC u 147 (nI a) v = some (upJ u 147 a v) := sJ_at (rs := []) rfl (by decide) h
theorem aC148 {u : gM} {a : Nat} (h : a < 97) : aJ skC u 148 (nI a) = some (u.2 148 a) := aJ_at (rs := []) rfl (by decide) h
theorem sC148 {u : gM} {a : Nat} (h : a < 97) {v : Int64} : sJ skC u 148 (nI a) v = some (upJ u 148 a v) := sJ_at (rs := []) rfl (by decide) h
theorem aC149 {u : gM} {a : Nat} (h : a < 97) : aJ skC u 149 (nI a) = some (u.2 149 a) := aJ_at (rs := []) rfl (by decide) h
theorem sC149 {u : gM} {a : Nat} (h : a < 97) {v : Int64} : sJ skC u 149 (nI a) v = some (upJ u 149 a v) := sJ_at (rs := []) rfl (by decide) h
theorem aC151 {u : gM} {a : Nat} (h : a < 6) : aJ skC u 151 (nI a) = some (u.2 151 a) := aJ_at (rs := []) rfl (by decide) h
theorem sC151 {u : gM} {a : Nat} (h : a < 6) {v : Int64} : sJ skC u 151 (nI a) v = some (upJ u 151 a v) := sJ_at (rs := []) rfl (by decide) h
theorem aC152 {u : gM} {a : Nat} (h : a < 6) : aJ skC u 152 (nI a) = some (u.2 152 a) := aJ_at (rs := []) rfl (by decide) h
theorem sC152 {u : gM} {a : Nat} (h : a < 6) {v : Int64} : sJ skC u 152 (nI a) v = some (upJ u 152 a v) := sJ_at (rs := []) rfl (by decide) h
theorem aC153 {u : gM} {a : Nat} (h : a < 12) : aI skC u 153 (nI a) = some (u.1 153 a) := aI_at (rs := []) rfl (by decide) h
theorem sC153 {u : gM} {a : Nat} (h : a < 12) {v : Int32} : sI skC u 153 (nI a) v = some (upI u 153 a v) := sI_at (rs := []) rfl (by decide) h
theorem aC154 {u : gM} {a : Nat} (h : a < 12) : aI skC u 154 (nI a) = some (u.1 154 a) := aI_at (rs := []) rfl (by decide) h
theorem sC154 {u : gM} {a : Nat} (h : a < 12) {v : Int32} : sI skC u 154 (nI a) v = some (upI u 154 a v) := sI_at (rs := []) rfl (by decide) h
theorem aC155 {u : gM} {a : Nat} (h : a < 12) : aJ skC u 155 (nI a) = some (u.2 155 a) := aJ_at (rs := []) rfl (by decide) h
theorem sC155 {u : gM} {a : Nat} (h : a < 12) {v : Int64} : sJ skC u 155 (nI a) v = some (upJ u 155 a v) := sJ_at (rs := []) rfl (by decide) h
theorem aC157 {u : gM} {a : Nat} (h : a < 96) : aI skC u 157 (nI a) = some (u.1 157 a) := aI_at (rs := []) rfl (by decide) h
theorem sC157 {u : gM} {a : Nat} (h : a < 96) {v : Int32} : sI skC u 157 (nI a) v = some (upI u 157 a v) := sI_at (rs := []) rfl (by decide) h
theorem aC158 {u : gM} {a : Nat} (h : a < 96) : aI skC u 158 (nI a) = some (u.1 158 a) := aI_at (rs := []) rfl (by decide) h
theorem sC158 {u : gM} {a : Nat} (h : a < 96) {v : Int32} : sI skC u 158 (nI a) v = some (upI u 158 a v) := sI_at (rs := []) rfl (by decide) h
theorem aC159 {u : gM} {a : Nat} (h : a < 96) : aI skC u 159 (nI a) = some (u.1 159 a) := aI_at (rs := []) rfl (by decide) h
theorem sC159 {u : gM} {a : Nat} (h : a < 96) {v : Int32} : sI skC u 159 (nI a) v = some (upI u 159 a v) := sI_at (rs := []) rfl (by decide) h
theorem aC160 {u : gM} {a : Nat} (h : a < 96) : aI skC u 160 (nI a) = some (u.1 160 a) := aI_at (rs := []) rfl (by decide) h
theorem sC160 {u : gM} {a : Nat} (h : a < 96) {v : Int32} : sI skC u 160 (nI a) v = some (upI u 160 a v) := sI_at (rs := []) rfl (by decide) h
theorem aC161 {u : gM} {a : Nat} (h : a < 10) : aI skC u 161 (nI a) = some (u.1 161 a) := aI_at (rs := []) rfl (by decide) h
theorem sC161 {u : gM} {a : Nat} (h : a < 10) {v : Int32} : sI skC u 161 (nI a) v = some (upI u 161 a v) := sI_at (rs := []) rfl (by decide) h
theorem aM1 {u : gM} {a : Nat} (h : a < 12) : aI skM u 1 (nI a) = some (u.1 1 a) := aI_at (rs := []) rfl (by decide) h
theorem sM1 {u : gM} {a : Nat} (h : a < 12) {v : Int32} : sI skM u 1 (nI a) v = some (upI u 1 a v) := sI_at (rs := []) rfl (by decide) h
theorem aM2 {u : gM} {a : Nat} (h : a < 20) : aJ skM u 2 (nI a) = some (u.2 2 a) := aJ_at (rs := []) rfl (by decide) h
theorem sM2 {u : gM} {a : Nat} (h : a < 20) {v : Int64} : sJ skM u 2 (nI a) v = some (upJ u 2 a v) := sJ_at (rs := []) rfl (by decide) h
theorem aM3 {u : gM} {a : Nat} (h : a < 12) : aJ skM u 3 (nI a) = some (u.2 3 a) := aJ_at (rs := []) rfl (by decide) h
theorem sM3 {u : gM} {a : Nat} (h : a < 12) {v : Int64} : sJ skM u 3 (nI a) v = some (upJ u 3 a v) := sJ_at (rs := []) rfl (by decide) h
theorem aM4 {u : gM} {a : Nat} (h : a < 48) : aJ skM u 4 (nI a) = some (u.2 4 a) := aJ_at (rs := []) rfl (by decide) h
theorem sM4 {u : gM} {a : Nat} (h : a < 48) {v : Int64} : sJ skM u 4 (nI a) v = some (upJ u 4 a v) := sJ_at (rs := []) rfl (by decide) h
theorem aM5 {u : gM} {a : Nat} (h : a < 48) : aI skM u 5 (nI a) = some (u.1 5 a) := aI_at (rs := []) rfl (by decide) h
theorem sM5 {u : gM} {a : Nat} (h : a < 48) {v : Int32} : sI skM u 5 (nI a) v = some (upI u 5 a v) := sI_at (rs := []) rfl (by decide) h
theorem aM6 {u : gM} {a : Nat} (h : a < 48) : aI skM u 6 (nI a) = some (u.1 6 a) := aI_at (rs := []) rfl (by decide) h
theorem sM6 {u : gM} {a : Nat} (h : a < 48) {v : Int32} : sI skM u 6 (nI a) v = some (upI u 6 a v) := sI_at (rs := []) rfl (by decide) h
theorem aM7 {u : gM} {a : Nat} (h : a < 48) : aI skM u 7 (nI a) = some (u.1 7 a) := aI_at (rs := []) rfl (by decide) h
theorem sM7 {u : gM} {a : Nat} (h : a < 48) {v : Int32} : sI skM u 7 (nI a) v = some (upI u 7 a v) := sI_at (rs := []) rfl (by decide) h
theorem aM8 {u : gM} {a : Nat} (h : a < 192) : aI skM u 8 (nI a) = some (u.1 8 a) := aI_at (rs := []) rfl (by decide) h
theorem sM8 {u : gM} {a : Nat} (h : a < 192) {v : Int32} : sI skM u 8 (nI a) v = some (upI u 8 a v) := sI_at (rs := []) rfl (by decide) h
theorem aM9 {u : gM} {a : Nat} (h : a < 48) : aI skM u 9 (nI a) = some (u.1 9 a) := aI_at (rs := []) rfl (by decide) h
theorem sM9 {u : gM} {a : Nat} (h : a < 48) {v : Int32} : sI skM u 9 (nI a) v = some (upI u 9 a v) := sI_at (rs := []) rfl (by decide) h
theorem aM10 {u : gM} {a : Nat} (h : a < 288) : aJ skM u 10 (nI a) = some (u.2 10 a) := aJ_at (rs := []) rfl (by decide) h
theorem sM10 {u : gM} {a : Nat} (h : a < 288) {v : Int64} : sJ skM u 10 (nI a) v = some (upJ u 10 a v) := sJ_at (rs := []) rfl (by decide) h
theorem aM11 {u : gM} {a : Nat} (h : a < 48) : aI skM u 11 (nI a) = some (u.1 11 a) := aI_at (rs := []) rfl (by decide) h
theorem sM11 {u : gM} {a : Nat} (h : a < 48) {v : Int32} : sI skM u 11 (nI a) v = some (upI u 11 a v) := sI_at (rs := []) rfl (by decide) h
theorem aM12 {u : gM} {a : Nat} (h : a < 48) : aI skM u 12 (nI a) = some (u.1 12 a) := aI_at (rs := []) rfl (by decide) h
theorem sM12 {u : gM} {a : Nat} (h : a < 48) {v : Int32} : sI skM u 12 (nI a) v = some (upI u 12 a v) := sI_at (rs := []) rfl (by decide) h
theorem aM13 {u : gM} {a : Nat} (h : a < 20) : aI skM u 13 (nI a) = some (u.1 13 a) := aI_at (rs := []) rfl (by decide) h
theorem sM13 {u : gM} {a : Nat} (h : a < 20) {v : Int32} : sI skM u 13 (nI a) v = some (upI u 13 a v) := sI_at (rs := []) rfl (by decide) h
theorem aM14 {u : gM} {a : Nat} (h : a < 20) : aI skM u 14 (nI a) = some (u.1 14 a) := aI_at (rs := []) rfl (by decide) h
theorem sM14 {u : gM} {a : Nat} (h : a < 20) {v : Int32} : sI skM u 14 (nI a) v = some (upI u 14 a v) := sI_at (rs := []) rfl (by decide) h
theorem aM15 {u : gM} {a : Nat} (h : a < 20) : aI skM u 15 (nI a) = some (u.1 15 a) := aI_at (rs := []) rfl (by decide) h
theorem sM15 {u : gM} {a : Nat} (h : a < 20) {v : Int32} : sI skM u 15 (nI a) v = some (upI u 15 a v) := sI_at (rs := []) rfl (by decide) h
theorem aM16 {u : gM} {a : Nat} (h : a < 439) : aI skM u 16 (nI a) = some (u.1 16 a) := aI_at (rs := []) rfl (by decide) h
theorem sM16 {u : gM} {a : Nat} (h : a < 439) {v : Int32} : sI skM u 16 (nI a) v = some (upI u 16 a v) := sI_at (rs := []) rfl (by decide) h
theorem aM17 {u : gM} {a : Nat} (h : a < 2634) : aI skM u 17 (nI a) = some (u.1 17 a) := aI_at (rs := []) rfl (by decide) h
theorem sM17 {u : gM} {a : Nat} (h : a < 2634) {v : Int32} : sI skM u 17 (nI a) v = some (upI u 17 a v) := sI_at (rs := []) rfl (by decide) h
theorem aM18 {u : gM} {a : Nat} (h : a < 439) : aI skM u 18 (nI a) = some (u.1 18 a) := aI_at (rs := []) rfl (by decide) h
theorem sM18 {u : gM} {a : Nat} (h : a < 439) {v : Int32} : sI skM u 18 (nI a) v = some (upI u 18 a v) := sI_at (rs := []) rfl (by decide) h
theorem aM19 {u : gM} {a : Nat} (h : a < 700) : aI skM u 19 (nI a) = some (u.1 19 a) := aI_at (rs := []) rfl (by decide) h
theorem sM19 {u : gM} {a : Nat} (h : a < 700) {v : Int32} : sI skM u 19 (nI a) v = some (upI u 19 a v) := sI_at (rs := []) rfl (by decide) h
theorem aM20 {u : gM} {a : Nat} (h : a < 144) : aJ skM u 20 (nI a) = some (u.2 20 a) := aJ_at (rs := []) rfl (by decide) h
theorem sM20 {u : gM} {a : Nat} (h : a < 144) {v : Int64} : sJ skM u 20 (nI a) v = some (upJ u 20 a v) := sJ_at (rs := []) rfl (by decide) h
theorem aM21 {u : gM} {a : Nat} (h : a < 97) : aJ skM u 21 (nI a) = some (u.2 21 a) := aJ_at (rs := []) rfl (by decide) h
theorem sM21 {u : gM} {a : Nat} (h : a < 97) {v : Int64} : sJ skM u 21 (nI a) v = some (upJ u 21 a v) := sJ_at (rs := []) rfl (by decide) h
theorem aM22 {u : gM} {a : Nat} (h : a < 97) : aJ skM u 22 (nI a) = some (u.2 22 a) := aJ_at (rs := []) rfl (by decide) h
theorem sM22 {u : gM} {a : Nat} (h : a < 97) {v : Int64} : sJ skM u 22 (nI a) v = some (upJ u 22 a v) := sJ_at (rs := []) rfl (by decide) h
theorem aM23 {u : gM} {a : Nat} (h : a < 97) : aJ skM u 23 (nI a) = some (u.2 23 a) := aJ_at (rs := []) rfl (by decide) h
theorem sM23 {u : gM} {a : Nat} (h : a < 97) {v : Int64} : sJ skM u 23 (nI a) v = some (upJ u 23 a v) := sJ_at (rs := []) rfl (by decide) h
theorem aM24 {u : gM} {a : Nat} (h : a < 96) : aJ skM u 24 (nI a) = some (u.2 24 a) := aJ_at (rs := []) rfl (by decide) h
theorem sM24 {u : gM} {a : Nat} (h : a < 96) {v : Int64} : sJ skM u 24 (nI a) v = some (upJ u 24 a v) := sJ_at (rs := []) rfl (by decide) h
theorem aM25 {u : gM} {a : Nat} (h : a < 96) : aJ skM u 25 (nI a) = some (u.2 25 a) := aJ_at (rs := []) rfl (by decide) h
theorem sM25 {u : gM} {a : Nat} (h : a < 96) {v : Int64} : sJ skM u 25 (nI a) v = some (upJ u 25 a v) := sJ_at (rs := []) rfl (by decide) h
theorem aM26 {u : gM} {a : Nat} (h : a < 96) : aJ skM u 26 (nI a) = some (u.2 26 a) := aJ_at (rs := []) rfl (by decide) h
theorem sM26 {u : gM} {a : Nat} (h : a < 96) {v : Int64} : sJ skM u 26 (nI a) v = some (upJ u 26 a v) := sJ_at (rs := []) rfl (by decide) h
theorem aM27 {u : gM} {a : Nat} (h : a < 360) : aI skM u 27 (nI a) = some (u.1 27 a) := aI_at (rs := []) rfl (by decide) h
theorem sM27 {u : gM} {a : Nat} (h : a < 360) {v : Int32} : sI skM u 27 (nI a) v = some (upI u 27 a v) := sI_at (rs := []) rfl (by decide) h
theorem aM28 {u : gM} {a : Nat} (h : a < 6) : aJ skM u 28 (nI a) = some (u.2 28 a) := aJ_at (rs := []) rfl (by decide) h
theorem sM28 {u : gM} {a : Nat} (h : a < 6) {v : Int64} : sJ skM u 28 (nI a) v = some (upJ u 28 a v) := sJ_at (rs := []) rfl (by decide) h
theorem aM29 {u : gM} {a : Nat} (h : a < 6) : aJ skM u 29 (nI a) = some (u.2 29 a) := aJ_at (rs := []) rfl (by decide) h
theorem sM29 {u : gM} {a : Nat} (h : a < 6) {v : Int64} : sJ skM u 29 (nI a) v = some (upJ u 29 a v) := sJ_at (rs := []) rfl (by decide) h
theorem aM30 {u : gM} {a : Nat} (h : a < 10) : aJ skM u 30 (nI a) = some (u.2 30 a) := aJ_at (rs := []) rfl (by decide) h
theorem sM30 {u : gM} {a : Nat} (h : a < 10) {v : Int64} : sJ skM u 30 (nI a) v = some (upJ u 30 a v) := sJ_at (rs := []) rfl (by decide) h
theorem c_139 : skC[139]? = some (.inr (1, 97, [])) := rfl
theorem c_147 : skC[147]? = some (.inr (1, 97, [])) := rfl
theorem isO_C3 : isO skC 3 10 = true := rfl
theorem rf_C3_6 : rf skC 3 6 = 4 := rfl
theorem rf_C3_7 : rf skC 3 7 = 5 := rfl
theorem rf_C3_8 : rf skC 3 8 = 6 := rfl
theorem rf_C3_9 : rf skC 3 9 = 7 := rfl
theorem rf_C3_10 : rf skC 3 10 = 8 := rfl
theorem rf_C3_11 : rf skC 3 11 = 9 := rfl
theorem rf_C3_12 : rf skC 3 12 = 10 := rfl
theorem rf_C3_13 : rf skC 3 13 = 11 := rfl
theorem rf_C3_14 : rf skC 3 14 = 12 := rfl
theorem rf_C3_15 : rf skC 3 15 = 13 := rfl
theorem rf_C3_16 : rf skC 3 16 = 14 := rfl
theorem rf_C3_17 : rf skC 3 17 = 15 := rfl
theorem rf_C3_18 : rf skC 3 18 = 16 := rfl
theorem rf_C3_19 : rf skC 3 19 = 17 := rfl
theorem isO_C18 : isO skC 18 8 = true := rfl
theorem rf_C18_1 : rf skC 18 1 = 19 := rfl
theorem rf_C18_2 : rf skC 18 2 = 20 := rfl
theorem rf_C18_3 : rf skC 18 3 = 21 := rfl
theorem rf_C18_4 : rf skC 18 4 = 22 := rfl
theorem rf_C18_5 : rf skC 18 5 = 23 := rfl
theorem rf_C18_6 : rf skC 18 6 = 24 := rfl
theorem isO_C24 : isO skC 24 5 = true := rfl
theorem rf_C24_2 : rf skC 24 2 = 25 := rfl
theorem rf_C24_3 : rf skC 24 3 = 26 := rfl
theorem rf_C24_4 : rf skC 24 4 = 27 := rfl
theorem rf_C24_5 : rf skC 24 5 = 28 := rfl
theorem rf_C24_6 : rf skC 24 6 = 29 := rfl
theorem isO_C32 : isO skC 32 8 = true := rfl
theorem rf_C32_1 : rf skC 32 1 = 33 := rfl
theorem rf_C32_2 : rf skC 32 2 = 34 := rfl
theorem rf_C32_3 : rf skC 32 3 = 35 := rfl
theorem rf_C32_4 : rf skC 32 4 = 36 := rfl
theorem rf_C32_5 : rf skC 32 5 = 37 := rfl
theorem rf_C32_6 : rf skC 32 6 = 38 := rfl
theorem isO_C38 : isO skC 38 5 = true := rfl
theorem rf_C38_2 : rf skC 38 2 = 39 := rfl
theorem rf_C38_3 : rf skC 38 3 = 40 := rfl
theorem rf_C38_4 : rf skC 38 4 = 41 := rfl
theorem rf_C38_5 : rf skC 38 5 = 42 := rfl
theorem rf_C38_6 : rf skC 38 6 = 43 := rfl
theorem isO_C44 : isO skC 44 8 = true := rfl
theorem rf_C44_1 : rf skC 44 1 = 45 := rfl
theorem rf_C44_2 : rf skC 44 2 = 46 := rfl
theorem rf_C44_3 : rf skC 44 3 = 47 := rfl
theorem rf_C44_4 : rf skC 44 4 = 48 := rfl
theorem rf_C44_5 : rf skC 44 5 = 49 := rfl
theorem rf_C44_6 : rf skC 44 6 = 50 := rfl
theorem isO_C50 : isO skC 50 5 = true := rfl
theorem rf_C50_2 : rf skC 50 2 = 51 := rfl
theorem rf_C50_3 : rf skC 50 3 = 52 := rfl
theorem rf_C50_4 : rf skC 50 4 = 53 := rfl
theorem rf_C50_5 : rf skC 50 5 = 54 := rfl
theorem rf_C50_6 : rf skC 50 6 = 55 := rfl
theorem isO_C56 : isO skC 56 8 = true := rfl
theorem rf_C56_1 : rf skC 56 1 = 57 := rfl
theorem rf_C56_2 : rf skC 56 2 = 58 := rfl
theorem rf_C56_3 : rf skC 56 3 = 59 := rfl
theorem rf_C56_4 : rf skC 56 4 = 60 := rfl
theorem rf_C56_5 : rf skC 56 5 = 61 := rfl
theorem rf_C56_6 : rf skC 56 6 = 62 := rfl
theorem isO_C62 : isO skC 62 5 = true := rfl
theorem rf_C62_2 : rf skC 62 2 = 63 := rfl
theorem rf_C62_3 : rf skC 62 3 = 64 := rfl
theorem rf_C62_4 : rf skC 62 4 = 65 := rfl
theorem rf_C62_5 : rf skC 62 5 = 66 := rfl
theorem rf_C62_6 : rf skC 62 6 = 67 := rfl
theorem isO_C68 : isO skC 68 8 = true := rfl
theorem rf_C68_1 : rf skC 68 1 = 69 := rfl
theorem rf_C68_2 : rf skC 68 2 = 70 := rfl
theorem rf_C68_3 : rf skC 68 3 = 71 := rfl
theorem rf_C68_4 : rf skC 68 4 = 72 := rfl
theorem rf_C68_5 : rf skC 68 5 = 73 := rfl
theorem rf_C68_6 : rf skC 68 6 = 74 := rfl
theorem isO_C74 : isO skC 74 5 = true := rfl
theorem rf_C74_2 : rf skC 74 2 = 75 := rfl
theorem rf_C74_3 : rf skC 74 3 = 76 := rfl
theorem rf_C74_4 : rf skC 74 4 = 77 := rfl
theorem rf_C74_5 : rf skC 74 5 = 78 := rfl
theorem rf_C74_6 : rf skC 74 6 = 79 := rfl
theorem isO_C80 : isO skC 80 8 = true := rfl
theorem rf_C80_1 : rf skC 80 1 = 81 := rfl
theorem rf_C80_2 : rf skC 80 2 = 82 := rfl
theorem rf_C80_3 : rf skC 80 3 = 83 := rfl
theorem rf_C80_4 : rf skC 80 4 = 84 := rfl
theorem rf_C80_5 : rf skC 80 5 = 85 := rfl
theorem rf_C80_6 : rf skC 80 6 = 86 := rfl
theorem isO_C86 : isO skC 86 5 = true := rfl
theorem rf_C86_2 : rf skC 86 2 = 87 := rfl
theorem rf_C86_3 : rf skC 86 3 = 88 := rfl
theorem rf_C86_4 : rf skC 86 4 = 89 := rfl
theorem rf_C86_5 : rf skC 86 5 = 90 := rfl
theorem rf_C86_6 : rf skC 86 6 = 91 := rfl
theorem isO_C92 : isO skC 92 8 = true := rfl
theorem rf_C92_1 : rf skC 92 1 = 93 := rfl
theorem rf_C92_2 : rf skC 92 2 = 94 := rfl
theorem rf_C92_3 : rf skC 92 3 = 95 := rfl
theorem rf_C92_4 : rf skC 92 4 = 96 := rfl
theorem rf_C92_5 : rf skC 92 5 = 97 := rfl
theorem rf_C92_6 : rf skC 92 6 = 98 := rfl
theorem isO_C98 : isO skC 98 5 = true := rfl
theorem rf_C98_2 : rf skC 98 2 = 99 := rfl
theorem rf_C98_3 : rf skC 98 3 = 100 := rfl
theorem rf_C98_4 : rf skC 98 4 = 101 := rfl
theorem rf_C98_5 : rf skC 98 5 = 102 := rfl
theorem rf_C98_6 : rf skC 98 6 = 103 := rfl
theorem isO_C104 : isO skC 104 8 = true := rfl
theorem rf_C104_1 : rf skC 104 1 = 105 := rfl
theorem rf_C104_2 : rf skC 104 2 = 106 := rfl
theorem rf_C104_3 : rf skC 104 3 = 107 := rfl
theorem rf_C104_4 : rf skC 104 4 = 108 := rfl
theorem rf_C104_5 : rf skC 104 5 = 109 := rfl
theorem rf_C104_6 : rf skC 104 6 = 110 := rfl
theorem isO_C110 : isO skC 110 5 = true := rfl
theorem rf_C110_2 : rf skC 110 2 = 111 := rfl
theorem rf_C110_3 : rf skC 110 3 = 112 := rfl
theorem rf_C110_4 : rf skC 110 4 = 113 := rfl
theorem rf_C110_5 : rf skC 110 5 = 114 := rfl
theorem rf_C110_6 : rf skC 110 6 = 115 := rfl
theorem isO_C117 : isO skC 117 10 = true := rfl
theorem rf_C117_6 : rf skC 117 6 = 118 := rfl
theorem rf_C117_7 : rf skC 117 7 = 119 := rfl
theorem rf_C117_8 : rf skC 117 8 = 120 := rfl
theorem rf_C117_9 : rf skC 117 9 = 121 := rfl
theorem rf_C117_10 : rf skC 117 10 = 122 := rfl
theorem rf_C117_11 : rf skC 117 11 = 123 := rfl
theorem rf_C117_12 : rf skC 117 12 = 124 := rfl
theorem rf_C117_13 : rf skC 117 13 = 125 := rfl
theorem rf_C117_14 : rf skC 117 14 = 126 := rfl
theorem rf_C117_15 : rf skC 117 15 = 127 := rfl
theorem rf_C117_16 : rf skC 117 16 = 128 := rfl
theorem rf_C117_17 : rf skC 117 17 = 129 := rfl
theorem rf_C117_18 : rf skC 117 18 = 130 := rfl
theorem rf_C117_19 : rf skC 117 19 = 131 := rfl
theorem isO_C138 : isO skC 138 4 = true := rfl
theorem rf_C138_2 : rf skC 138 2 = 139 := rfl
theorem rf_C138_3 : rf skC 138 3 = 140 := rfl
theorem rf_C138_4 : rf skC 138 4 = 141 := rfl
theorem isO_C146 : isO skC 146 4 = true := rfl
theorem rf_C146_2 : rf skC 146 2 = 147 := rfl
theorem rf_C146_3 : rf skC 146 3 = 148 := rfl
theorem rf_C146_4 : rf skC 146 4 = 149 := rfl
theorem isO_C156 : isO skC 156 5 = true := rfl
theorem rf_C156_2 : rf skC 156 2 = 157 := rfl
theorem rf_C156_3 : rf skC 156 3 = 158 := rfl
theorem rf_C156_4 : rf skC 156 4 = 159 := rfl
theorem rf_C156_5 : rf skC 156 5 = 160 := rfl
theorem rf_C156_6 : rf skC 156 6 = 161 := rfl
