/-! byes and places of a tournament of n players, by program (tables.py): the seats that hold byes, best and last place of a match of the lower bracket -/
def ty_bye (n x : Nat) : List Int := bif Nat.beq n 2 then (bif Nat.beq x 0 then [0, 1, 0, 1, 0, 0, 1, 1, 1, 0, 0, 0] else [0, 1, 0, 1, 0, 0, 1, 1, 1, 0, 0, 0]) else bif Nat.beq n 3 then (bif Nat.beq x 0 then [0, 1, 0, 0, 0, 0, 1, 0, 0, 0, 0, 0] else [0, 1, 0, 0, 0, 0, 1, 0, 0, 0, 0, 0]) else bif Nat.beq n 4 then (bif Nat.beq x 0 then [0, 0, 0, 0, 0, 0, 0, 0, 0, 0, 0, 0] else [0, 0, 0, 0, 0, 0, 0, 0, 0, 0, 0, 0]) else bif Nat.beq n 5 then (bif Nat.beq x 0 then [0, 1, 0, 0, 0, 1, 0, 1, 0, 0, 0, 0, 0, 0, 1, 0, 1, 1, 0, 0, 1, 0, 0, 0, 0, 0, 0, 0] else [0, 1, 0, 0, 0, 1, 0, 1, 0, 0, 0, 0, 0, 0, 1, 0, 1, 1, 0, 0, 1, 0, 0, 0, 0, 0, 0, 0]) else bif Nat.beq n 6 then (bif Nat.beq x 0 then [0, 1, 0, 0, 0, 1, 0, 0, 0, 0, 0, 0, 0, 0, 1, 0, 1, 0, 0, 0, 0, 0, 0, 0, 0, 0, 0, 0] else [0, 1, 0, 0, 0, 1, 0, 0, 0, 0, 0, 0, 0, 0, 1, 0, 1, 0, 0, 0, 0, 0, 0, 0, 0, 0, 0, 0]) else bif Nat.beq n 7 then (bif Nat.beq x 0 then [0, 1, 0, 0, 0, 0, 0, 0, 0, 0, 0, 0, 0, 0, 1, 0, 0, 0, 0, 0, 0, 0, 0, 0, 0, 0, 0, 0] else [0, 1, 0, 0, 0, 0, 0, 0, 0, 0, 0, 0, 0, 0, 1, 0, 0, 0, 0, 0, 0, 0, 0, 0, 0, 0, 0, 0]) else bif Nat.beq n 8 then (bif Nat.beq x 0 then [0, 0, 0, 0, 0, 0, 0, 0, 0, 0, 0, 0, 0, 0, 0, 0, 0, 0, 0, 0, 0, 0, 0, 0, 0, 0, 0, 0] else [0, 0, 0, 0, 0, 0, 0, 0, 0, 0, 0, 0, 0, 0, 0, 0, 0, 0, 0, 0, 0, 0, 0, 0, 0, 0, 0, 0]) else bif Nat.beq n 9 then (bif Nat.beq x 0 then [0, 1, 0, 0, 0, 1, 0, 1, 0, 1, 0, 1, 0, 1, 0, 1, 0, 0, 0, 0, 0, 0, 0, 0, 0, 0, 0, 0, 0, 0, 1, 0, 1, 1, 1, 1, 1, 1, 0, 0, 1, 0, 1, 0, 1, 0, 0, 0, 0, 0, 0, 0, 0, 0, 0, 0, 0, 0, 0, 0] else [0, 1, 0, 0, 0, 1, 0, 1, 0, 1, 0, 1, 0, 1, 0, 1, 0, 0, 0, 0, 0, 0, 0, 0, 0, 0, 0, 0, 0, 0, 1, 0, 1, 1, 1, 1, 1, 1, 0, 0, 1, 0, 1, 0, 1, 0, 0, 0, 0, 0, 0, 0, 0, 0, 0, 0, 0, 0, 0, 0]) else bif Nat.beq n 10 then (bif Nat.beq x 0 then [0, 1, 0, 0, 0, 1, 0, 1, 0, 1, 0, 0, 0, 1, 0, 1, 0, 0, 0, 0, 0, 0, 0, 0, 0, 0, 0, 0, 0, 0, 1, 0, 1, 1, 1, 0, 1, 1, 0, 0, 1, 0, 0, 0, 1, 0, 0, 0, 0, 0, 0, 0, 0, 0, 0, 0, 0, 0, 0, 0] else [0, 1, 0, 0, 0, 1, 0, 1, 0, 1, 0, 0, 0, 1, 0, 1, 0, 0, 0, 0, 0, 0, 0, 0, 0, 0, 0, 0, 0, 0, 1, 0, 1, 1, 1, 0, 1, 1, 0, 0, 1, 0, 0, 0, 1, 0, 0, 0, 0, 0, 0, 0, 0, 0, 0, 0, 0, 0, 0, 0]) else bif Nat.beq n 11 then (bif Nat.beq x 0 then [0, 1, 0, 0, 0, 1, 0, 1, 0, 1, 0, 0, 0, 1, 0, 0, 0, 0, 0, 0, 0, 0, 0, 0, 0, 0, 0, 0, 0, 0, 1, 0, 1, 1, 1, 0, 1, 0, 0, 0, 1, 0, 0, 0, 0, 0, 0, 0, 0, 0, 0, 0, 0, 0, 0, 0, 0, 0, 0, 0] else [0, 1, 0, 0, 0, 1, 0, 1, 0, 1, 0, 0, 0, 1, 0, 0, 0, 0, 0, 0, 0, 0, 0, 0, 0, 0, 0, 0, 0, 0, 1, 0, 1, 1, 1, 0, 1, 0, 0, 0, 1, 0, 0, 0, 0, 0, 0, 0, 0, 0, 0, 0, 0, 0, 0, 0, 0, 0, 0, 0]) else bif Nat.beq n 12 then (bif Nat.beq x 0 then [0, 1, 0, 0, 0, 1, 0, 0, 0, 1, 0, 0, 0, 1, 0, 0, 0, 0, 0, 0, 0, 0, 0, 0, 0, 0, 0, 0, 0, 0, 1, 0, 1, 0, 1, 0, 1, 0, 0, 0, 0, 0, 0, 0, 0, 0, 0, 0, 0, 0, 0, 0, 0, 0, 0, 0, 0, 0, 0, 0] else [0, 1, 0, 0, 0, 1, 0, 0, 0, 1, 0, 0, 0, 1, 0, 0, 0, 0, 0, 0, 0, 0, 0, 0, 0, 0, 0, 0, 0, 0, 1, 0, 1, 0, 1, 0, 1, 0, 0, 0, 0, 0, 0, 0, 0, 0, 0, 0, 0, 0, 0, 0, 0, 0, 0, 0, 0, 0, 0, 0]) else bif Nat.beq n 13 then (bif Nat.beq x 0 then [0, 1, 0, 0, 0, 0, 0, 0, 0, 1, 0, 0, 0, 1, 0, 0, 0, 0, 0, 0, 0, 0, 0, 0, 0, 0, 0, 0, 0, 0, 1, 0, 0, 0, 1, 0, 1, 0, 0, 0, 0, 0, 0, 0, 0, 0, 0, 0, 0, 0, 0, 0, 0, 0, 0, 0, 0, 0, 0, 0] else [0, 1, 0, 0, 0, 0, 0, 0, 0, 1, 0, 0, 0, 1, 0, 0, 0, 0, 0, 0, 0, 0, 0, 0, 0, 0, 0, 0, 0, 0, 1, 0, 0, 0, 1, 0, 1, 0, 0, 0, 0, 0, 0, 0, 0, 0, 0, 0, 0, 0, 0, 0, 0, 0, 0, 0, 0, 0, 0, 0]) else bif Nat.beq n 14 then (bif Nat.beq x 0 then [0, 1, 0, 0, 0, 0, 0, 0, 0, 1, 0, 0, 0, 0, 0, 0, 0, 0, 0, 0, 0, 0, 0, 0, 0, 0, 0, 0, 0, 0, 1, 0, 0, 0, 1, 0, 0, 0, 0, 0, 0, 0, 0, 0, 0, 0, 0, 0, 0, 0, 0, 0, 0, 0, 0, 0, 0, 0, 0, 0] else [0, 1, 0, 0, 0, 0, 0, 0, 0, 1, 0, 0, 0, 0, 0, 0, 0, 0, 0, 0, 0, 0, 0, 0, 0, 0, 0, 0, 0, 0, 1, 0, 0, 0, 1, 0, 0, 0, 0, 0, 0, 0, 0, 0, 0, 0, 0, 0, 0, 0, 0, 0, 0, 0, 0, 0, 0, 0, 0, 0]) else bif Nat.beq n 15 then (bif Nat.beq x 0 then [0, 1, 0, 0, 0, 0, 0, 0, 0, 0, 0, 0, 0, 0, 0, 0, 0, 0, 0, 0, 0, 0, 0, 0, 0, 0, 0, 0, 0, 0, 1, 0, 0, 0, 0, 0, 0, 0, 0, 0, 0, 0, 0, 0, 0, 0, 0, 0, 0, 0, 0, 0, 0, 0, 0, 0, 0, 0, 0, 0] else [0, 1, 0, 0, 0, 0, 0, 0, 0, 0, 0, 0, 0, 0, 0, 0, 0, 0, 0, 0, 0, 0, 0, 0, 0, 0, 0, 0, 0, 0, 1, 0, 0, 0, 0, 0, 0, 0, 0, 0, 0, 0, 0, 0, 0, 0, 0, 0, 0, 0, 0, 0, 0, 0, 0, 0, 0, 0, 0, 0]) else bif Nat.beq n 16 then (bif Nat.beq x 0 then [0, 0, 0, 0, 0, 0, 0, 0, 0, 0, 0, 0, 0, 0, 0, 0, 0, 0, 0, 0, 0, 0, 0, 0, 0, 0, 0, 0, 0, 0, 0, 0, 0, 0, 0, 0, 0, 0, 0, 0, 0, 0, 0, 0, 0, 0, 0, 0, 0, 0, 0, 0, 0, 0, 0, 0, 0, 0, 0, 0] else [0, 0, 0, 0, 0, 0, 0, 0, 0, 0, 0, 0, 0, 0, 0, 0, 0, 0, 0, 0, 0, 0, 0, 0, 0, 0, 0, 0, 0, 0, 0, 0, 0, 0, 0, 0, 0, 0, 0, 0, 0, 0, 0, 0, 0, 0, 0, 0, 0, 0, 0, 0, 0, 0, 0, 0, 0, 0, 0, 0]) else []
def ty_best (n x : Nat) : List Int := bif Nat.beq n 2 then (bif Nat.beq x 0 then [-6, -6, -6, 3, 3, -6, -6] else [-6, -6, -6, 3, 3, -6, -6]) else bif Nat.beq n 3 then (bif Nat.beq x 0 then [-6, -6, -6, 4, 3, -6, -6] else [-6, -6, -6, 4, 3, -6, -6]) else bif Nat.beq n 4 then (bif Nat.beq x 0 then [-6, -6, -6, 4, 3, -6, -6] else [-6, -6, -6, 4, 3, -6, -6]) else bif Nat.beq n 5 then (bif Nat.beq x 0 then [-6, -6, -6, -6, -6, -6, -6, 6, 6, 5, 5, 4, 3, -6, -6] else [-6, -6, -6, -6, -6, -6, -6, 6, 6, 5, 5, 4, 3, -6, -6]) else bif Nat.beq n 6 then (bif Nat.beq x 0 then [-6, -6, -6, -6, -6, -6, -6, 7, 7, 5, 5, 4, 3, -6, -6] else [-6, -6, -6, -6, -6, -6, -6, 7, 7, 5, 5, 4, 3, -6, -6]) else bif Nat.beq n 7 then (bif Nat.beq x 0 then [-6, -6, -6, -6, -6, -6, -6, 7, 7, 5, 5, 4, 3, -6, -6] else [-6, -6, -6, -6, -6, -6, -6, 7, 7, 5, 5, 4, 3, -6, -6]) else bif Nat.beq n 8 then (bif Nat.beq x 0 then [-6, -6, -6, -6, -6, -6, -6, 7, 7, 5, 5, 4, 3, -6, -6] else [-6, -6, -6, -6, -6, -6, -6, 7, 7, 5, 5, 4, 3, -6, -6]) else bif Nat.beq n 9 then (bif Nat.beq x 0 then [-6, -6, -6, -6, -6, -6, -6, -6, -6, -6, -6, -6, -6, -6, -6, 10, 10, 10, 10, 9, 9, 9, 9, 7, 7, 5, 5, 4, 3, -6, -6] else [-6, -6, -6, -6, -6, -6, -6, -6, -6, -6, -6, -6, -6, -6, -6, 10, 10, 10, 10, 9, 9, 9, 9, 7, 7, 5, 5, 4, 3, -6, -6]) else bif Nat.beq n 10 then (bif Nat.beq x 0 then [-6, -6, -6, -6, -6, -6, -6, -6, -6, -6, -6, -6, -6, -6, -6, 11, 11, 11, 11, 9, 9, 9, 9, 7, 7, 5, 5, 4, 3, -6, -6] else [-6, -6, -6, -6, -6, -6, -6, -6, -6, -6, -6, -6, -6, -6, -6, 11, 11, 11, 11, 9, 9, 9, 9, 7, 7, 5, 5, 4, 3, -6, -6]) else bif Nat.beq n 11 then (bif Nat.beq x 0 then [-6, -6, -6, -6, -6, -6, -6, -6, -6, -6, -6, -6, -6, -6, -6, 12, 12, 12, 12, 9, 9, 9, 9, 7, 7, 5, 5, 4, 3, -6, -6] else [-6, -6, -6, -6, -6, -6, -6, -6, -6, -6, -6, -6, -6, -6, -6, 12, 12, 12, 12, 9, 9, 9, 9, 7, 7, 5, 5, 4, 3, -6, -6]) else bif Nat.beq n 12 then (bif Nat.beq x 0 then [-6, -6, -6, -6, -6, -6, -6, -6, -6, -6, -6, -6, -6, -6, -6, 13, 13, 13, 13, 9, 9, 9, 9, 7, 7, 5, 5, 4, 3, -6, -6] else [-6, -6, -6, -6, -6, -6, -6, -6, -6, -6, -6, -6, -6, -6, -6, 13, 13, 13, 13, 9, 9, 9, 9, 7, 7, 5, 5, 4, 3, -6, -6]) else bif Nat.beq n 13 then (bif Nat.beq x 0 then [-6, -6, -6, -6, -6, -6, -6, -6, -6, -6, -6, -6, -6, -6, -6, 13, 13, 13, 13, 9, 9, 9, 9, 7, 7, 5, 5, 4, 3, -6, -6] else [-6, -6, -6, -6, -6, -6, -6, -6, -6, -6, -6, -6, -6, -6, -6, 13, 13, 13, 13, 9, 9, 9, 9, 7, 7, 5, 5, 4, 3, -6, -6]) else bif Nat.beq n 14 then (bif Nat.beq x 0 then [-6, -6, -6, -6, -6, -6, -6, -6, -6, -6, -6, -6, -6, -6, -6, 13, 13, 13, 13, 9, 9, 9, 9, 7, 7, 5, 5, 4, 3, -6, -6] else [-6, -6, -6, -6, -6, -6, -6, -6, -6, -6, -6, -6, -6, -6, -6, 13, 13, 13, 13, 9, 9, 9, 9, 7, 7, 5, 5, 4, 3, -6, -6]) else bif Nat.beq n 15 then (bif Nat.beq x 0 then [-6, -6, -6, -6, -6, -6, -6, -6, -6, -6, -6, -6, -6, -6, -6, 13, 13, 13, 13, 9, 9, 9, 9, 7, 7, 5, 5, 4, 3, -6, -6] else [-6, -6, -6, -6, -6, -6, -6, -6, -6, -6, -6, -6, -6, -6, -6, 13, 13, 13, 13, 9, 9, 9, 9, 7, 7, 5, 5, 4, 3, -6, -6]) else bif Nat.beq n 16 then (bif Nat.beq x 0 then [-6, -6, -6, -6, -6, -6, -6, -6, -6, -6, -6, -6, -6, -6, -6, 13, 13, 13, 13, 9, 9, 9, 9, 7, 7, 5, 5, 4, 3, -6, -6] else [-6, -6, -6, -6, -6, -6, -6, -6, -6, -6, -6, -6, -6, -6, -6, 13, 13, 13, 13, 9, 9, 9, 9, 7, 7, 5, 5, 4, 3, -6, -6]) else []
def ty_last (n x : Nat) : List Int := bif Nat.beq n 2 then (bif Nat.beq x 0 then [-6, -6, -6, 2, 2, -6, -6] else [-6, -6, -6, 2, 2, -6, -6]) else bif Nat.beq n 3 then (bif Nat.beq x 0 then [-6, -6, -6, 3, 3, -6, -6] else [-6, -6, -6, 3, 3, -6, -6]) else bif Nat.beq n 4 then (bif Nat.beq x 0 then [-6, -6, -6, 4, 3, -6, -6] else [-6, -6, -6, 4, 3, -6, -6]) else bif Nat.beq n 5 then (bif Nat.beq x 0 then [-6, -6, -6, -6, -6, -6, -6, 5, 5, 5, 5, 4, 3, -6, -6] else [-6, -6, -6, -6, -6, -6, -6, 5, 5, 5, 5, 4, 3, -6, -6]) else bif Nat.beq n 6 then (bif Nat.beq x 0 then [-6, -6, -6, -6, -6, -6, -6, 6, 6, 6, 6, 4, 3, -6, -6] else [-6, -6, -6, -6, -6, -6, -6, 6, 6, 6, 6, 4, 3, -6, -6]) else bif Nat.beq n 7 then (bif Nat.beq x 0 then [-6, -6, -6, -6, -6, -6, -6, 7, 7, 6, 6, 4, 3, -6, -6] else [-6, -6, -6, -6, -6, -6, -6, 7, 7, 6, 6, 4, 3, -6, -6]) else bif Nat.beq n 8 then (bif Nat.beq x 0 then [-6, -6, -6, -6, -6, -6, -6, 8, 8, 6, 6, 4, 3, -6, -6] else [-6, -6, -6, -6, -6, -6, -6, 8, 8, 6, 6, 4, 3, -6, -6]) else bif Nat.beq n 9 then (bif Nat.beq x 0 then [-6, -6, -6, -6, -6, -6, -6, -6, -6, -6, -6, -6, -6, -6, -6, 9, 9, 9, 9, 9, 9, 9, 9, 8, 8, 6, 6, 4, 3, -6, -6] else [-6, -6, -6, -6, -6, -6, -6, -6, -6, -6, -6, -6, -6, -6, -6, 9, 9, 9, 9, 9, 9, 9, 9, 8, 8, 6, 6, 4, 3, -6, -6]) else bif Nat.beq n 10 then (bif Nat.beq x 0 then [-6, -6, -6, -6, -6, -6, -6, -6, -6, -6, -6, -6, -6, -6, -6, 10, 10, 10, 10, 10, 10, 10, 10, 8, 8, 6, 6, 4, 3, -6, -6] else [-6, -6, -6, -6, -6, -6, -6, -6, -6, -6, -6, -6, -6, -6, -6, 10, 10, 10, 10, 10, 10, 10, 10, 8, 8, 6, 6, 4, 3, -6, -6]) else bif Nat.beq n 11 then (bif Nat.beq x 0 then [-6, -6, -6, -6, -6, -6, -6, -6, -6, -6, -6, -6, -6, -6, -6, 11, 11, 11, 11, 11, 11, 11, 11, 8, 8, 6, 6, 4, 3, -6, -6] else [-6, -6, -6, -6, -6, -6, -6, -6, -6, -6, -6, -6, -6, -6, -6, 11, 11, 11, 11, 11, 11, 11, 11, 8, 8, 6, 6, 4, 3, -6, -6]) else bif Nat.beq n 12 then (bif Nat.beq x 0 then [-6, -6, -6, -6, -6, -6, -6, -6, -6, -6, -6, -6, -6, -6, -6, 12, 12, 12, 12, 12, 12, 12, 12, 8, 8, 6, 6, 4, 3, -6, -6] else [-6, -6, -6, -6, -6, -6, -6, -6, -6, -6, -6, -6, -6, -6, -6, 12, 12, 12, 12, 12, 12, 12, 12, 8, 8, 6, 6, 4, 3, -6, -6]) else bif Nat.beq n 13 then (bif Nat.beq x 0 then [-6, -6, -6, -6, -6, -6, -6, -6, -6, -6, -6, -6, -6, -6, -6, 13, 13, 13, 13, 12, 12, 12, 12, 8, 8, 6, 6, 4, 3, -6, -6] else [-6, -6, -6, -6, -6, -6, -6, -6, -6, -6, -6, -6, -6, -6, -6, 13, 13, 13, 13, 12, 12, 12, 12, 8, 8, 6, 6, 4, 3, -6, -6]) else bif Nat.beq n 14 then (bif Nat.beq x 0 then [-6, -6, -6, -6, -6, -6, -6, -6, -6, -6, -6, -6, -6, -6, -6, 14, 14, 14, 14, 12, 12, 12, 12, 8, 8, 6, 6, 4, 3, -6, -6] else [-6, -6, -6, -6, -6, -6, -6, -6, -6, -6, -6, -6, -6, -6, -6, 14, 14, 14, 14, 12, 12, 12, 12, 8, 8, 6, 6, 4, 3, -6, -6]) else bif Nat.beq n 15 then (bif Nat.beq x 0 then [-6, -6, -6, -6, -6, -6, -6, -6, -6, -6, -6, -6, -6, -6, -6, 15, 15, 15, 15, 12, 12, 12, 12, 8, 8, 6, 6, 4, 3, -6, -6] else [-6, -6, -6, -6, -6, -6, -6, -6, -6, -6, -6, -6, -6, -6, -6, 15, 15, 15, 15, 12, 12, 12, 12, 8, 8, 6, 6, 4, 3, -6, -6]) else bif Nat.beq n 16 then (bif Nat.beq x 0 then [-6, -6, -6, -6, -6, -6, -6, -6, -6, -6, -6, -6, -6, -6, -6, 16, 16, 16, 16, 12, 12, 12, 12, 8, 8, 6, 6, 4, 3, -6, -6] else [-6, -6, -6, -6, -6, -6, -6, -6, -6, -6, -6, -6, -6, -6, -6, 16, 16, 16, 16, 12, 12, 12, 12, 8, 8, 6, 6, 4, 3, -6, -6]) else []
abbrev tby (n x : Nat) : Nat → Int := pw_nth 0 (ty_bye n x)
abbrev tbe (n x : Nat) : Nat → Int := pw_nth (-6) (ty_best n x)
abbrev tla (n x : Nat) : Nat → Int := pw_nth (-6) (ty_last n x)
theorem nx_all {P : Nat → Nat → Bool} (h : (List.range 15).all (fun i => (List.range 2).all (fun x => P (i + 2) x)) = true) {n x : Nat} (hn : 2 ≤ n ∧ n ≤ 16) (hx : x = 0 ∨ x = 1) : P n x = true := by
  have a := all_lt h (n - 2) (by omega)
  have b := all_lt a x (by omega)
  rw [show n - 2 + 2 = n by omega] at b
  exact b
/-- the byes hang together -/
def ck_b (n x : Nat) : Bool := (List.range (tz n)).all (fun s => decide (tby n x s = if (n : Int) ≤ tSD (tz n) s then 1 else 0)) && ((List.range (tF (tz n) - 2)).all (fun k => decide (tby n x (tWS (tz n) k).toNat = (if tby n x (2 * k) + tby n x (2 * k + 1) = 2 then 1 else 0) ∧ (tLS (tz n) x k = -6 ∨ tby n x (tLS (tz n) x k).toNat = if 0 < tby n x (2 * k) + tby n x (2 * k + 1) then 1 else 0))) && ((List.range (2 * tF (tz n))).all (fun s => decide (tby n x s = 0 ∨ tby n x s = 1)) && decide (tby n x (2 * tF (tz n) - 3) = 0)))
theorem ck_b_all : (List.range 15).all (fun i => (List.range 2).all (fun x => ck_b (i + 2) x)) = true := by decide +kernel
theorem tby_ok {n x : Nat} (hn : 2 ≤ n ∧ n ≤ 16) (hx : x = 0 ∨ x = 1) : (∀ s, s < tz n → tby n x s = if (n : Int) ≤ tSD (tz n) s then 1 else 0) ∧ (∀ k, k < tF (tz n) - 2 → tby n x (tWS (tz n) k).toNat = (if tby n x (2 * k) + tby n x (2 * k + 1) = 2 then 1 else 0) ∧ (tLS (tz n) x k = -6 ∨ tby n x (tLS (tz n) x k).toNat = if 0 < tby n x (2 * k) + tby n x (2 * k + 1) then 1 else 0)) ∧ (∀ s, s < 2 * tF (tz n) → tby n x s = 0 ∨ tby n x s = 1) ∧ tby n x (2 * tF (tz n) - 3) = 0 := by
  have h := nx_all ck_b_all hn hx
  unfold ck_b at h
  simp only [Bool.and_eq_true] at h
  obtain ⟨h1, h2, h3, h4⟩ := h
  exact ⟨fun s hs => of_decide_eq_true (all_lt h1 s hs), fun k hk => of_decide_eq_true (all_lt h2 k hk), fun s hs => of_decide_eq_true (all_lt h3 s hs), of_decide_eq_true h4⟩
section BYT
variable {n x : Nat} {R g : Nat → Int} {B : BB} {ps : Nat → Nat}
/-- which seats hold byes does not depend on results -/
theorem t_b16 (hx : x = 0 ∨ x = 1) (h : fin (tz n) x n (rlive R g) B ps) : ∀ s, s < 2 * tF (tz n) - 2 → B.1 s ≠ -6 → (B.1 s = 16 ↔ tby n x s = 1) := by
  have n16 : n ≤ 16 := by
    have := h.2.2.1
    have := h.1.1
    omega
  have hn : 2 ≤ n ∧ n ≤ 16 := ⟨h.2.2.1.1, n16⟩
  obtain ⟨f1, f2, f3, f4⟩ := cfg_F h.1
  obtain ⟨y1, y2, y3, y4⟩ := tby_ok hn hx
  intro s
  induction s using Nat.strongRecOn with
  | _ s ih =>
    intro hs hk
    by_cases c : s < tz n
    · have e := h.2.2.2.1.1 s c
      have t := (tb_seed h.1 s c).1
      rw [e, y1 s c]
      unfold tini
      by_cases c2 : tSD (tz n) s < (n : Int)
      · rw [if_pos c2, if_neg (by omega)]
        constructor
        · intro y; omega
        · intro y; omega
      · rw [if_neg c2, if_pos (by omega)]
        exact ⟨fun _ => rfl, fun _ => rfl⟩
    · obtain ⟨k, hk1, hks, hq⟩ := tb_src h.1 s hs (by omega)
      have a := h.2.2.2.1.2.1 k hk1
      have nz : B.2.1 k ≠ 0 := fun y => by
        rcases hq with hq | hq
        · have := (a.1 y).1
          rw [hq, Int.toNat_natCast] at this
          exact hk this
        · have := (a.1 y).2 (by omega)
          rw [hq, Int.toNat_natCast] at this
          exact hk this
      have km : k < tF (tz n) := by omega
      obtain ⟨k0, k1⟩ := t_sides h km nz
      have i0 := ih (2 * k) (by omega) (by omega) k0
      have i1 := ih (2 * k + 1) (by omega) (by omega) k1
      have v0 := y3 (2 * k) (by omega)
      have v1 := y3 (2 * k + 1) (by omega)
      have by' := t_bye h km k0 k1
      have rr := (h.2.1 k (B.1 (2 * k)) (B.1 (2 * k + 1)) (by omega)).2.1
      obtain ⟨-, -, d2, -⟩ := h.2.2.2.1.2.2.2.1 k km nz
      have wl := t_wl h km nz
      have yk := y2 k hk1
      -- the winner's and the loser's seat
      have W : bw B k = 16 ↔ tby n x (2 * k) + tby n x (2 * k + 1) = 2 := by
        by_cases e : B.1 (2 * k) = 16 ∨ B.1 (2 * k + 1) = 16
        · rw [rr e] at d2
          have d2 : B.2.2 k = if B.1 (2 * k + 1) = 16 then 0 else 1 := d2
          by_cases e1 : B.1 (2 * k + 1) = 16
          · rw [if_pos e1] at d2
            rcases wl with ⟨-, w, -⟩ | ⟨w, -, -⟩
            · rw [w]; omega
            · omega
          · rw [if_neg e1] at d2
            rcases wl with ⟨w, -, -⟩ | ⟨-, w, -⟩
            · omega
            · rw [w]; omega
        · have e0 : ¬ B.1 (2 * k) = 16 := fun y => e (Or.inl y)
          have e1 : ¬ B.1 (2 * k + 1) = 16 := fun y => e (Or.inr y)
          rcases wl with ⟨-, w, -⟩ | ⟨-, w, -⟩
          · rw [w]; omega
          · rw [w]; omega
      have Lo : bl B k = 16 ↔ 0 < tby n x (2 * k) + tby n x (2 * k + 1) := by
        by_cases e : B.1 (2 * k) = 16 ∨ B.1 (2 * k + 1) = 16
        · rw [rr e] at d2
          have d2 : B.2.2 k = if B.1 (2 * k + 1) = 16 then 0 else 1 := d2
          by_cases e1 : B.1 (2 * k + 1) = 16
          · rw [if_pos e1] at d2
            rcases wl with ⟨-, -, w⟩ | ⟨w, -, -⟩
            · rw [w]; omega
            · omega
          · rw [if_neg e1] at d2
            rcases wl with ⟨w, -, -⟩ | ⟨-, -, w⟩
            · omega
            · rw [w]; omega
        · have e0 : ¬ B.1 (2 * k) = 16 := fun y => e (Or.inl y)
          have e1 : ¬ B.1 (2 * k + 1) = 16 := fun y => e (Or.inr y)
          rcases wl with ⟨-, -, w⟩ | ⟨-, -, w⟩
          · rw [w]; omega
          · rw [w]; omega
      rcases hq with hq | hq
      · have b := (a.2 nz).1
        rw [hq, Int.toNat_natCast] at b
        have yk := yk.1
        rw [hq, Int.toNat_natCast] at yk
        have e : B.1 s = bw B k := by
          rw [b]
          unfold bw
          rw [if_neg nz]
        rw [e, yk, W]
        by_cases c2 : tby n x (2 * k) + tby n x (2 * k + 1) = 2
        · rw [if_pos c2]; exact ⟨fun _ => rfl, fun _ => c2⟩
        · rw [if_neg c2]; omega
      · have b := (a.2 nz).2 (by omega)
        rw [hq, Int.toNat_natCast] at b
        have yk := yk.2.resolve_left (by omega)
        rw [hq, Int.toNat_natCast] at yk
        have e : B.1 s = bl B k := by
          rw [b]
          unfold bl
          rw [if_neg nz]
        rw [e, yk, Lo]
        by_cases c2 : 0 < tby n x (2 * k) + tby n x (2 * k + 1)
        · rw [if_pos c2]; exact ⟨fun _ => rfl, fun _ => c2⟩
        · rw [if_neg c2]; omega
end BYT
/-! the plan's best and last places -/
section BYY
variable {z x n : Nat}
theorem yr_keep (h : cfg z x) {Y : Nat → Int} {k t : Nat} (ht : ∀ j, k ≤ j → j < tF z - 2 → (t : Int) ≠ tWS z j ∧ (t : Int) ≠ tLS z x j) : ∀ d : Nat, k + d ≤ tF z - 2 → yrun (tWS z) (tLS z x) Y (k + d) t = yrun (tWS z) (tLS z x) Y k t := by
  intro d
  induction d with
  | zero => intro _; rfl
  | succ d ih =>
    intro hd
    obtain ⟨q1, q2⟩ := ht (k + d) (by omega) (by omega)
    show ystp _ _ (k + d) _ t = _
    unfold ystp
    have p : ∀ (f : Nat → Int) (i v : Int), (t : Int) ≠ i → bput f i v t = f t := fun f i v q => by
      unfold bput
      by_cases c : 0 ≤ i ∧ i < 62
      · rw [if_pos c, fup_ne (by omega)]
      · rw [if_neg c]
    rw [p _ _ _ q2, p _ _ _ q1]
    exact ih (by omega)
theorem byY_0 (h : cfg z x) {s : Nat} (hs : s < z) : byY z x n s = if (n : Int) ≤ tSD z s then 1 else 0 := by
  have k := yr_keep h (Y := fun s => if s < z ∧ (n : Int) ≤ tSD z s then 1 else 0) (k := 0) (t := s) (fun j _ hj => by
    have w := tb_win h j hj
    have l := tb_los h j (by omega)
    omega) (tF z - 2) (by omega)
  rw [Nat.zero_add] at k
  unfold byY
  rw [k]
  show (if s < z ∧ (n : Int) ≤ tSD z s then (1 : Int) else 0) = _
  by_cases c : (n : Int) ≤ tSD z s
  · rw [if_pos ⟨hs, c⟩, if_pos c]
  · rw [if_neg (fun y => c y.2), if_neg c]
theorem byY_k (h : cfg z x) {k : Nat} (hk : k < tF z - 2) : byY z x n (tWS z k).toNat = (if byY z x n (2 * k) + byY z x n (2 * k + 1) = 2 then 1 else 0) ∧ (tLS z x k ≠ -6 → byY z x n (tLS z x k).toNat = if 0 < byY z x n (2 * k) + byY z x n (2 * k + 1) then 1 else 0) := by
  obtain ⟨f1, f2, f3, f4⟩ := cfg_F h
  have w := tb_win h k hk
  have l := tb_los h k (by omega)
  have lo : ∀ s, s < 2 * k + 2 → byY z x n s = yrun (tWS z) (tLS z x) (fun s => if s < z ∧ (n : Int) ≤ tSD z s then 1 else 0) k s := fun s hs => by
    have := yrun_lo h (Y := fun s => if s < z ∧ (n : Int) ≤ tSD z s then 1 else 0) (k := k) (tF z - 2 - k) (by omega) s hs
    rw [show k + (tF z - 2 - k) = tF z - 2 by omega] at this
    exact this
  have up : ∀ t : Nat, (∀ j, k + 1 ≤ j → j < tF z - 2 → (t : Int) ≠ tWS z j ∧ (t : Int) ≠ tLS z x j) → byY z x n t = ystp (tWS z) (tLS z x) k (yrun (tWS z) (tLS z x) (fun s => if s < z ∧ (n : Int) ≤ tSD z s then 1 else 0) k) t := fun t ht => by
    have := yr_keep h (Y := fun s => if s < z ∧ (n : Int) ≤ tSD z s then 1 else 0) (k := k + 1) (t := t) ht (tF z - 2 - (k + 1)) (by omega)
    rw [show k + 1 + (tF z - 2 - (k + 1)) = tF z - 2 by omega] at this
    exact this
  rw [lo (2 * k) (by omega), lo (2 * k + 1) (by omega)]
  have i0 := (tb_inj h k hk k hk).2.2
  refine ⟨?_, fun hl => ?_⟩
  · rw [up _ (fun j hj1 hj2 => by
      have i1 := tb_inj h k hk j hj2
      have wj := tb_win h j hj2
      have lj := tb_los h j (by omega)
      refine ⟨fun e => ?_, fun e => ?_⟩
      · have := i1.1 (by omega); omega
      · exact i1.2.2 (by omega))]
    unfold ystp bput
    by_cases c : 0 ≤ tLS z x k ∧ tLS z x k < 62
    · rw [if_pos c, fup_ne (by omega), if_pos (by omega), fup_eq]
    · rw [if_neg c, if_pos (by omega), fup_eq]
  · have l := l.resolve_left hl
    rw [up _ (fun j hj1 hj2 => by
      have i1 := tb_inj h k hk j hj2
      have i2 := tb_inj h j hj2 k hk
      have wj := tb_win h j hj2
      have lj := tb_los h j (by omega)
      refine ⟨fun e => ?_, fun e => ?_⟩
      · exact i2.2.2 (by omega)
      · have := i1.2.1 (by omega)
        omega)]
    unfold ystp
    rw [show ∀ (f : Nat → Int) (v : Int), bput f (tLS z x k) v (tLS z x k).toNat = v from fun f v => by
      unfold bput
      rw [if_pos (by omega), fup_eq]]
end BYY
theorem byY_is {n x : Nat} (hn : 2 ≤ n ∧ n ≤ 16) (hx : x = 0 ∨ x = 1) : ∀ s, s < 2 * tF (tz n) - 2 → byY (tz n) x n s = tby n x s := by
  obtain ⟨hc, -⟩ := tz_facts hn hx
  obtain ⟨f1, f2, f3, f4⟩ := cfg_F hc
  obtain ⟨y1, y2, y3, y4⟩ := tby_ok hn hx
  intro s
  induction s using Nat.strongRecOn with
  | _ s ih =>
    intro hs
    by_cases c : s < tz n
    · rw [byY_0 hc c, y1 s c]
    · obtain ⟨k, hk1, hks, hq⟩ := tb_src hc s hs (by omega)
      have b := byY_k (n := n) hc hk1
      have t := y2 k hk1
      rw [ih (2 * k) (by omega) (by omega), ih (2 * k + 1) (by omega) (by omega)] at b
      rcases hq with hq | hq
      · have b := b.1
        have t := t.1
        rw [hq, Int.toNat_natCast] at b t
        rw [b, t]
      · have b := b.2 (by omega)
        have t := t.2.resolve_left (by omega)
        rw [hq, Int.toNat_natCast] at b t
        rw [b, t]
/-- the places, out of the byes -/
def ck_p (n x : Nat) : Bool := (List.range (tF (tz n) - 2)).all (fun m => decide (tPT (tz n) m = 1 → (tbe n x m = psm (fun j => nob (tby n x) (lst (tz n) j).toNat (lmn (tz n) j).toNat) (2 * tR (tz n) - 2 - (tr (tz_round (tz n)) m).toNat) ((tr (tz_round (tz n)) m).toNat + 1) + 3 ∧ tla n x m = psm (fun j => nob (tby n x) (lst (tz n) j).toNat (lmn (tz n) j).toNat) (2 * tR (tz n) - 2 - (tr (tz_round (tz n)) m).toNat) ((tr (tz_round (tz n)) m).toNat + 1) + 2 + nob (tby n x) (lst (tz n) (tr (tz_round (tz n)) m).toNat).toNat (lmn (tz n) (tr (tz_round (tz n)) m).toNat).toNat)))
theorem ck_p_all : (List.range 15).all (fun i => (List.range 2).all (fun x => ck_p (i + 2) x)) = true := by decide +kernel
theorem psm_congr {P Q : Nat → Int} {N : Nat} (h : ∀ j, 1 ≤ j → j ≤ N → P j = Q j) : ∀ f k : Nat, 1 ≤ k → k + f ≤ N + 1 → psm P f k = psm Q f k := by
  intro f
  induction f with
  | zero => intro k _ _; rfl
  | succ f ih =>
    intro k h1 h2
    show P k + psm P f (k + 1) = Q k + psm Q f (k + 1)
    rw [h k h1 (by omega), ih (k + 1) (by omega) (by omega)]
theorem nbk_is {n x k : Nat} (hn : 2 ≤ n ∧ n ≤ 16) (hx : x = 0 ∨ x = 1) (h1 : 1 ≤ k) (h2 : k ≤ 2 * tR (tz n) - 2) : nbk (tz n) x n k = nob (tby n x) (lst (tz n) k).toNat (lmn (tz n) k).toNat := by
  obtain ⟨hc, -⟩ := tz_facts hn hx
  obtain ⟨f1, f2, f3, f4⟩ := cfg_F hc
  have l := lst_rg hc h1 h2
  unfold nbk
  exact nob_same (N := tF (tz n) - 2) (fun s hs => byY_is hn hx s (by omega)) (by omega)
/-- the class' places are those of the table -/
theorem CI_tab {G : PW} {n x L : Nat} (h : CI G n x L) {m : Nat} (hm : m < tF (tz n) - 2) (hp : tPT (tz n) m = 1) : G 10 m = tbe n x m ∧ G 11 m = tla n x m := by
  obtain ⟨hc, g1, g2, g3, g4, g5⟩ := tz_facts h.1 h.2.1
  have c := nx_all ck_p_all h.1 h.2.1
  have c := of_decide_eq_true (all_lt c m hm) hp
  have r := (tb_round hc m (by omega)).2 hp
  have q := h.2.2.2.2.1.2.2.2 m (tr (tz_round (tz n)) m).toNat (by omega) hp (by omega)
  have e := fun j a b => nbk_is (k := j) h.1 h.2.1 a b
  rw [psm_congr (N := 2 * tR (tz n) - 2) e _ _ (by omega) (by omega), nbk_is h.1 h.2.1 (by omega) (by omega)] at q
  rw [c.1, c.2]
  exact q
