/-! the reference: its object at 332, its rows behind it -/
def zMp (m : zM) : Prop := m 332 4 = 333 ∧ m 332 7 = 334 ∧ m 332 8 = 335 ∧ m 332 9 = 336 ∧ m 332 10 = 337 ∧ m 332 11 = 338 ∧ m 332 12 = 339 ∧ m 332 13 = 340 ∧ m 332 24 = 341 ∧ m 332 25 = 342 ∧ m 332 26 = 343 ∧ m 332 27 = 344 ∧ m 332 28 = 345 ∧ m 332 29 = 346 ∧ m 332 30 = 347 ∧ m 332 31 = 348 ∧ m 332 34 = 349 ∧ m 332 35 = 350 ∧ m 332 36 = 351 ∧ m 332 37 = 352 ∧ m 332 38 = 353 ∧ m 332 39 = 354 ∧ m 332 40 = 355 ∧ m 332 41 = 356 ∧ m 332 42 = 357 ∧ m 332 43 = 358 ∧ m 332 44 = 359 ∧ m 332 47 = 360 ∧ m 332 48 = 361 ∧ m 332 49 = 362 ∧ m 332 52 = 363 ∧ m 332 54 = 364 ∧ m 332 55 = 365 ∧ m 332 56 = 366 ∧ m 332 57 = 367 ∧ m 332 58 = 368 ∧ m 332 59 = 369 ∧ m 332 60 = 370
def zMt (L : zY) : Prop := zt L 332 = 11 ∧ zt L 333 = 20 ∧ zt L 334 = 20 ∧ zt L 335 = 20 ∧ zt L 336 = 20 ∧ zt L 337 = 20 ∧ zt L 338 = 20 ∧ zt L 339 = 20 ∧ zt L 340 = 20 ∧ zt L 341 = 20 ∧ zt L 342 = 20 ∧ zt L 343 = 20 ∧ zt L 344 = 20 ∧ zt L 345 = 20 ∧ zt L 346 = 20 ∧ zt L 347 = 20 ∧ zt L 348 = 20 ∧ zt L 349 = 20 ∧ zt L 350 = 20 ∧ zt L 351 = 20 ∧ zt L 352 = 20 ∧ zt L 353 = 20 ∧ zt L 354 = 20 ∧ zt L 355 = 20 ∧ zt L 356 = 20 ∧ zt L 357 = 20 ∧ zt L 358 = 20 ∧ zt L 359 = 20 ∧ zt L 360 = 20 ∧ zt L 361 = 20 ∧ zt L 362 = 20 ∧ zt L 363 = 20 ∧ zt L 364 = 20 ∧ zt L 365 = 20 ∧ zt L 366 = 20 ∧ zt L 367 = 20 ∧ zt L 368 = 20 ∧ zt L 369 = 21 ∧ zt L 370 = 21
def zMn (L : zY) : Prop := zn L 333 = 300 ∧ zn L 334 = 52 ∧ zn L 335 = 10 ∧ zn L 336 = 20 ∧ zn L 337 = 16 ∧ zn L 338 = 8 ∧ zn L 339 = 8 ∧ zn L 340 = 32 ∧ zn L 341 = 26 ∧ zn L 342 = 26 ∧ zn L 343 = 26 ∧ zn L 344 = 26 ∧ zn L 345 = 14 ∧ zn L 346 = 32 ∧ zn L 347 = 38 ∧ zn L 348 = 80 ∧ zn L 349 = 3 ∧ zn L 350 = 600 ∧ zn L 351 = 600 ∧ zn L 352 = 600 ∧ zn L 353 = 600 ∧ zn L 354 = 600 ∧ zn L 355 = 600 ∧ zn L 356 = 3 ∧ zn L 357 = 400 ∧ zn L 358 = 400 ∧ zn L 359 = 400 ∧ zn L 360 = 400 ∧ zn L 361 = 201 ∧ zn L 362 = 400 ∧ zn L 363 = 6 ∧ zn L 364 = 2400 ∧ zn L 365 = 30 ∧ zn L 366 = 30 ∧ zn L 367 = 1 ∧ zn L 368 = 400 ∧ zn L 369 = 900 ∧ zn L 370 = 900
theorem mp4 {m : zM} (h : zMp m) : m 332 4 = 333 := h.1
theorem mt333 {L : zY} (h : zMt L) : zt L 333 = 20 := h.2.1
theorem mn333 {L : zY} (h : zMn L) : zn L 333 = 300 := h.1
theorem mp7 {m : zM} (h : zMp m) : m 332 7 = 334 := h.2.1
theorem mt334 {L : zY} (h : zMt L) : zt L 334 = 20 := h.2.2.1
theorem mn334 {L : zY} (h : zMn L) : zn L 334 = 52 := h.2.1
theorem mp8 {m : zM} (h : zMp m) : m 332 8 = 335 := h.2.2.1
theorem mt335 {L : zY} (h : zMt L) : zt L 335 = 20 := h.2.2.2.1
theorem mn335 {L : zY} (h : zMn L) : zn L 335 = 10 := h.2.2.1
theorem mp9 {m : zM} (h : zMp m) : m 332 9 = 336 := h.2.2.2.1
theorem mt336 {L : zY} (h : zMt L) : zt L 336 = 20 := h.2.2.2.2.1
theorem mn336 {L : zY} (h : zMn L) : zn L 336 = 20 := h.2.2.2.1
theorem mp10 {m : zM} (h : zMp m) : m 332 10 = 337 := h.2.2.2.2.1
theorem mt337 {L : zY} (h : zMt L) : zt L 337 = 20 := h.2.2.2.2.2.1
theorem mn337 {L : zY} (h : zMn L) : zn L 337 = 16 := h.2.2.2.2.1
theorem mp11 {m : zM} (h : zMp m) : m 332 11 = 338 := h.2.2.2.2.2.1
theorem mt338 {L : zY} (h : zMt L) : zt L 338 = 20 := h.2.2.2.2.2.2.1
theorem mn338 {L : zY} (h : zMn L) : zn L 338 = 8 := h.2.2.2.2.2.1
theorem mp12 {m : zM} (h : zMp m) : m 332 12 = 339 := h.2.2.2.2.2.2.1
theorem mt339 {L : zY} (h : zMt L) : zt L 339 = 20 := h.2.2.2.2.2.2.2.1
theorem mn339 {L : zY} (h : zMn L) : zn L 339 = 8 := h.2.2.2.2.2.2.1
theorem mp13 {m : zM} (h : zMp m) : m 332 13 = 340 := h.2.2.2.2.2.2.2.1
theorem mt340 {L : zY} (h : zMt L) : zt L 340 = 20 := h.2.2.2.2.2.2.2.2.1
theorem mn340 {L : zY} (h : zMn L) : zn L 340 = 32 := h.2.2.2.2.2.2.2.1
theorem mp24 {m : zM} (h : zMp m) : m 332 24 = 341 := h.2.2.2.2.2.2.2.2.1
theorem mt341 {L : zY} (h : zMt L) : zt L 341 = 20 := h.2.2.2.2.2.2.2.2.2.1
theorem mn341 {L : zY} (h : zMn L) : zn L 341 = 26 := h.2.2.2.2.2.2.2.2.1
theorem mp25 {m : zM} (h : zMp m) : m 332 25 = 342 := h.2.2.2.2.2.2.2.2.2.1
theorem mt342 {L : zY} (h : zMt L) : zt L 342 = 20 := h.2.2.2.2.2.2.2.2.2.2.1
theorem mn342 {L : zY} (h : zMn L) : zn L 342 = 26 := h.2.2.2.2.2.2.2.2.2.1
theorem mp26 {m : zM} (h : zMp m) : m 332 26 = 343 := h.2.2.2.2.2.2.2.2.2.2.1
theorem mt343 {L : zY} (h : zMt L) : zt L 343 = 20 := h.2.2.2.2.2.2.2.2.2.2.2.1
theorem mn343 {L : zY} (h : zMn L) : zn L 343 = 26 := h.2.2.2.2.2.2.2.2.2.2.1
theorem mp27 {m : zM} (h : zMp m) : m 332 27 = 344 := h.2.2.2.2.2.2.2.2.2.2.2.1
theorem mt344 {L : zY} (h : zMt L) : zt L 344 = 20 := h.2.2.2.2.2.2.2.2.2.2.2.2.1
theorem mn344 {L : zY} (h : zMn L) : zn L 344 = 26 := h.2.2.2.2.2.2.2.2.2.2.2.1
theorem mp28 {m : zM} (h : zMp m) : m 332 28 = 345 := h.2.2.2.2.2.2.2.2.2.2.2.2.1
theorem mt345 {L : zY} (h : zMt L) : zt L 345 = 20 := h.2.2.2.2.2.2.2.2.2.2.2.2.2.1
theorem mn345 {L : zY} (h : zMn L) : zn L 345 = 14 := h.2.2.2.2.2.2.2.2.2.2.2.2.1
theorem mp29 {m : zM} (h : zMp m) : m 332 29 = 346 := h.2.2.2.2.2.2.2.2.2.2.2.2.2.1
theorem mt346 {L : zY} (h : zMt L) : zt L 346 = 20 := h.2.2.2.2.2.2.2.2.2.2.2.2.2.2.1
theorem mn346 {L : zY} (h : zMn L) : zn L 346 = 32 := h.2.2.2.2.2.2.2.2.2.2.2.2.2.1
theorem mp30 {m : zM} (h : zMp m) : m 332 30 = 347 := h.2.2.2.2.2.2.2.2.2.2.2.2.2.2.1
theorem mt347 {L : zY} (h : zMt L) : zt L 347 = 20 := h.2.2.2.2.2.2.2.2.2.2.2.2.2.2.2.1
theorem mn347 {L : zY} (h : zMn L) : zn L 347 = 38 := h.2.2.2.2.2.2.2.2.2.2.2.2.2.2.1
theorem mp31 {m : zM} (h : zMp m) : m 332 31 = 348 := h.2.2.2.2.2.2.2.2.2.2.2.2.2.2.2.1
theorem mt348 {L : zY} (h : zMt L) : zt L 348 = 20 := h.2.2.2.2.2.2.2.2.2.2.2.2.2.2.2.2.1
theorem mn348 {L : zY} (h : zMn L) : zn L 348 = 80 := h.2.2.2.2.2.2.2.2.2.2.2.2.2.2.2.1
theorem mp34 {m : zM} (h : zMp m) : m 332 34 = 349 := h.2.2.2.2.2.2.2.2.2.2.2.2.2.2.2.2.1
theorem mt349 {L : zY} (h : zMt L) : zt L 349 = 20 := h.2.2.2.2.2.2.2.2.2.2.2.2.2.2.2.2.2.1
theorem mn349 {L : zY} (h : zMn L) : zn L 349 = 3 := h.2.2.2.2.2.2.2.2.2.2.2.2.2.2.2.2.1
theorem mp35 {m : zM} (h : zMp m) : m 332 35 = 350 := h.2.2.2.2.2.2.2.2.2.2.2.2.2.2.2.2.2.1
theorem mt350 {L : zY} (h : zMt L) : zt L 350 = 20 := h.2.2.2.2.2.2.2.2.2.2.2.2.2.2.2.2.2.2.1
theorem mn350 {L : zY} (h : zMn L) : zn L 350 = 600 := h.2.2.2.2.2.2.2.2.2.2.2.2.2.2.2.2.2.1
theorem mp36 {m : zM} (h : zMp m) : m 332 36 = 351 := h.2.2.2.2.2.2.2.2.2.2.2.2.2.2.2.2.2.2.1
theorem mt351 {L : zY} (h : zMt L) : zt L 351 = 20 := h.2.2.2.2.2.2.2.2.2.2.2.2.2.2.2.2.2.2.2.1
theorem mn351 {L : zY} (h : zMn L) : zn L 351 = 600 := h.2.2.2.2.2.2.2.2.2.2.2.2.2.2.2.2.2.2.1
theorem mp37 {m : zM} (h : zMp m) : m 332 37 = 352 := h.2.2.2.2.2.2.2.2.2.2.2.2.2.2.2.2.2.2.2.1
theorem mt352 {L : zY} (h : zMt L) : zt L 352 = 20 := h.2.2.2.2.2.2.2.2.2.2.2.2.2.2.2.2.2.2.2.2.1
theorem mn352 {L : zY} (h : zMn L) : zn L 352 = 600 := h.2.2.2.2.2.2.2.2.2.2.2.2.2.2.2.2.2.2.2.1
theorem mp38 {m : zM} (h : zMp m) : m 332 38 = 353 := h.2.2.2.2.2.2.2.2.2.2.2.2.2.2.2.2.2.2.2.2.1
theorem mt353 {L : zY} (h : zMt L) : zt L 353 = 20 := h.2.2.2.2.2.2.2.2.2.2.2.2.2.2.2.2.2.2.2.2.2.1
theorem mn353 {L : zY} (h : zMn L) : zn L 353 = 600 := h.2.2.2.2.2.2.2.2.2.2.2.2.2.2.2.2.2.2.2.2.1
theorem mp39 {m : zM} (h : zMp m) : m 332 39 = 354 := h.2.2.2.2.2.2.2.2.2.2.2.2.2.2.2.2.2.2.2.2.2.1
theorem mt354 {L : zY} (h : zMt L) : zt L 354 = 20 := h.2.2.2.2.2.2.2.2.2.2.2.2.2.2.2.2.2.2.2.2.2.2.1
theorem mn354 {L : zY} (h : zMn L) : zn L 354 = 600 := h.2.2.2.2.2.2.2.2.2.2.2.2.2.2.2.2.2.2.2.2.2.1
theorem mp40 {m : zM} (h : zMp m) : m 332 40 = 355 := h.2.2.2.2.2.2.2.2.2.2.2.2.2.2.2.2.2.2.2.2.2.2.1
theorem mt355 {L : zY} (h : zMt L) : zt L 355 = 20 := h.2.2.2.2.2.2.2.2.2.2.2.2.2.2.2.2.2.2.2.2.2.2.2.1
theorem mn355 {L : zY} (h : zMn L) : zn L 355 = 600 := h.2.2.2.2.2.2.2.2.2.2.2.2.2.2.2.2.2.2.2.2.2.2.1
theorem mp41 {m : zM} (h : zMp m) : m 332 41 = 356 := h.2.2.2.2.2.2.2.2.2.2.2.2.2.2.2.2.2.2.2.2.2.2.2.1
theorem mt356 {L : zY} (h : zMt L) : zt L 356 = 20 := h.2.2.2.2.2.2.2.2.2.2.2.2.2.2.2.2.2.2.2.2.2.2.2.2.1
theorem mn356 {L : zY} (h : zMn L) : zn L 356 = 3 := h.2.2.2.2.2.2.2.2.2.2.2.2.2.2.2.2.2.2.2.2.2.2.2.1
theorem mp42 {m : zM} (h : zMp m) : m 332 42 = 357 := h.2.2.2.2.2.2.2.2.2.2.2.2.2.2.2.2.2.2.2.2.2.2.2.2.1
theorem mt357 {L : zY} (h : zMt L) : zt L 357 = 20 := h.2.2.2.2.2.2.2.2.2.2.2.2.2.2.2.2.2.2.2.2.2.2.2.2.2.1
theorem mn357 {L : zY} (h : zMn L) : zn L 357 = 400 := h.2.2.2.2.2.2.2.2.2.2.2.2.2.2.2.2.2.2.2.2.2.2.2.2.1
theorem mp43 {m : zM} (h : zMp m) : m 332 43 = 358 := h.2.2.2.2.2.2.2.2.2.2.2.2.2.2.2.2.2.2.2.2.2.2.2.2.2.1
theorem mt358 {L : zY} (h : zMt L) : zt L 358 = 20 := h.2.2.2.2.2.2.2.2.2.2.2.2.2.2.2.2.2.2.2.2.2.2.2.2.2.2.1
theorem mn358 {L : zY} (h : zMn L) : zn L 358 = 400 := h.2.2.2.2.2.2.2.2.2.2.2.2.2.2.2.2.2.2.2.2.2.2.2.2.2.1
theorem mp44 {m : zM} (h : zMp m) : m 332 44 = 359 := h.2.2.2.2.2.2.2.2.2.2.2.2.2.2.2.2.2.2.2.2.2.2.2.2.2.2.1
theorem mt359 {L : zY} (h : zMt L) : zt L 359 = 20 := h.2.2.2.2.2.2.2.2.2.2.2.2.2.2.2.2.2.2.2.2.2.2.2.2.2.2.2.1
theorem mn359 {L : zY} (h : zMn L) : zn L 359 = 400 := h.2.2.2.2.2.2.2.2.2.2.2.2.2.2.2.2.2.2.2.2.2.2.2.2.2.2.1
theorem mp47 {m : zM} (h : zMp m) : m 332 47 = 360 := h.2.2.2.2.2.2.2.2.2.2.2.2.2.2.2.2.2.2.2.2.2.2.2.2.2.2.2.1
theorem mt360 {L : zY} (h : zMt L) : zt L 360 = 20 := h.2.2.2.2.2.2.2.2.2.2.2.2.2.2.2.2.2.2.2.2.2.2.2.2.2.2.2.2.1
theorem mn360 {L : zY} (h : zMn L) : zn L 360 = 400 := h.2.2.2.2.2.2.2.2.2.2.2.2.2.2.2.2.2.2.2.2.2.2.2.2.2.2.2.1
theorem mp48 {m : zM} (h : zMp m) : m 332 48 = 361 := h.2.2.2.2.2.2.2.2.2.2.2.2.2.2.2.2.2.2.2.2.2.2.2.2.2.2.2.2.1
theorem mt361 {L : zY} (h : zMt L) : zt L 361 = 20 := h.2.2.2.2.2.2.2.2.2.2.2.2.2.2.2.2.2.2.2.2.2.2.2.2.2.2.2.2.2.1
theorem mn361 {L : zY} (h : zMn L) : zn L 361 = 201 := h.2.2.2.2.2.2.2.2.2.2.2.2.2.2.2.2.2.2.2.2.2.2.2.2.2.2.2.2.1
theorem mp49 {m : zM} (h : zMp m) : m 332 49 = 362 := h.2.2.2.2.2.2.2.2.2.2.2.2.2.2.2.2.2.2.2.2.2.2.2.2.2.2.2.2.2.1
theorem mt362 {L : zY} (h : zMt L) : zt L 362 = 20 := h.2.2.2.2.2.2.2.2.2.2.2.2.2.2.2.2.2.2.2.2.2.2.2.2.2.2.2.2.2.2.1
theorem mn362 {L : zY} (h : zMn L) : zn L 362 = 400 := h.2.2.2.2.2.2.2.2.2.2.2.2.2.2.2.2.2.2.2.2.2.2.2.2.2.2.2.2.2.1
theorem mp52 {m : zM} (h : zMp m) : m 332 52 = 363 := h.2.2.2.2.2.2.2.2.2.2.2.2.2.2.2.2.2.2.2.2.2.2.2.2.2.2.2.2.2.2.1
theorem mt363 {L : zY} (h : zMt L) : zt L 363 = 20 := h.2.2.2.2.2.2.2.2.2.2.2.2.2.2.2.2.2.2.2.2.2.2.2.2.2.2.2.2.2.2.2.1
theorem mn363 {L : zY} (h : zMn L) : zn L 363 = 6 := h.2.2.2.2.2.2.2.2.2.2.2.2.2.2.2.2.2.2.2.2.2.2.2.2.2.2.2.2.2.2.1
theorem mp54 {m : zM} (h : zMp m) : m 332 54 = 364 := h.2.2.2.2.2.2.2.2.2.2.2.2.2.2.2.2.2.2.2.2.2.2.2.2.2.2.2.2.2.2.2.1
theorem mt364 {L : zY} (h : zMt L) : zt L 364 = 20 := h.2.2.2.2.2.2.2.2.2.2.2.2.2.2.2.2.2.2.2.2.2.2.2.2.2.2.2.2.2.2.2.2.1
theorem mn364 {L : zY} (h : zMn L) : zn L 364 = 2400 := h.2.2.2.2.2.2.2.2.2.2.2.2.2.2.2.2.2.2.2.2.2.2.2.2.2.2.2.2.2.2.2.1
theorem mp55 {m : zM} (h : zMp m) : m 332 55 = 365 := h.2.2.2.2.2.2.2.2.2.2.2.2.2.2.2.2.2.2.2.2.2.2.2.2.2.2.2.2.2.2.2.2.1
theorem mt365 {L : zY} (h : zMt L) : zt L 365 = 20 := h.2.2.2.2.2.2.2.2.2.2.2.2.2.2.2.2.2.2.2.2.2.2.2.2.2.2.2.2.2.2.2.2.2.1
theorem mn365 {L : zY} (h : zMn L) : zn L 365 = 30 := h.2.2.2.2.2.2.2.2.2.2.2.2.2.2.2.2.2.2.2.2.2.2.2.2.2.2.2.2.2.2.2.2.1
theorem mp56 {m : zM} (h : zMp m) : m 332 56 = 366 := h.2.2.2.2.2.2.2.2.2.2.2.2.2.2.2.2.2.2.2.2.2.2.2.2.2.2.2.2.2.2.2.2.2.1
theorem mt366 {L : zY} (h : zMt L) : zt L 366 = 20 := h.2.2.2.2.2.2.2.2.2.2.2.2.2.2.2.2.2.2.2.2.2.2.2.2.2.2.2.2.2.2.2.2.2.2.1
theorem mn366 {L : zY} (h : zMn L) : zn L 366 = 30 := h.2.2.2.2.2.2.2.2.2.2.2.2.2.2.2.2.2.2.2.2.2.2.2.2.2.2.2.2.2.2.2.2.2.1
theorem mp57 {m : zM} (h : zMp m) : m 332 57 = 367 := h.2.2.2.2.2.2.2.2.2.2.2.2.2.2.2.2.2.2.2.2.2.2.2.2.2.2.2.2.2.2.2.2.2.2.1
theorem mt367 {L : zY} (h : zMt L) : zt L 367 = 20 := h.2.2.2.2.2.2.2.2.2.2.2.2.2.2.2.2.2.2.2.2.2.2.2.2.2.2.2.2.2.2.2.2.2.2.2.1
theorem mn367 {L : zY} (h : zMn L) : zn L 367 = 1 := h.2.2.2.2.2.2.2.2.2.2.2.2.2.2.2.2.2.2.2.2.2.2.2.2.2.2.2.2.2.2.2.2.2.2.1
theorem mp58 {m : zM} (h : zMp m) : m 332 58 = 368 := h.2.2.2.2.2.2.2.2.2.2.2.2.2.2.2.2.2.2.2.2.2.2.2.2.2.2.2.2.2.2.2.2.2.2.2.1
theorem mt368 {L : zY} (h : zMt L) : zt L 368 = 20 := h.2.2.2.2.2.2.2.2.2.2.2.2.2.2.2.2.2.2.2.2.2.2.2.2.2.2.2.2.2.2.2.2.2.2.2.2.1
theorem mn368 {L : zY} (h : zMn L) : zn L 368 = 400 := h.2.2.2.2.2.2.2.2.2.2.2.2.2.2.2.2.2.2.2.2.2.2.2.2.2.2.2.2.2.2.2.2.2.2.2.1
theorem mp59 {m : zM} (h : zMp m) : m 332 59 = 369 := h.2.2.2.2.2.2.2.2.2.2.2.2.2.2.2.2.2.2.2.2.2.2.2.2.2.2.2.2.2.2.2.2.2.2.2.2.1
theorem mt369 {L : zY} (h : zMt L) : zt L 369 = 21 := h.2.2.2.2.2.2.2.2.2.2.2.2.2.2.2.2.2.2.2.2.2.2.2.2.2.2.2.2.2.2.2.2.2.2.2.2.2.1
theorem mn369 {L : zY} (h : zMn L) : zn L 369 = 900 := h.2.2.2.2.2.2.2.2.2.2.2.2.2.2.2.2.2.2.2.2.2.2.2.2.2.2.2.2.2.2.2.2.2.2.2.2.1
theorem mp60 {m : zM} (h : zMp m) : m 332 60 = 370 := h.2.2.2.2.2.2.2.2.2.2.2.2.2.2.2.2.2.2.2.2.2.2.2.2.2.2.2.2.2.2.2.2.2.2.2.2.2
theorem mt370 {L : zY} (h : zMt L) : zt L 370 = 21 := h.2.2.2.2.2.2.2.2.2.2.2.2.2.2.2.2.2.2.2.2.2.2.2.2.2.2.2.2.2.2.2.2.2.2.2.2.2.2
theorem mn370 {L : zY} (h : zMn L) : zn L 370 = 900 := h.2.2.2.2.2.2.2.2.2.2.2.2.2.2.2.2.2.2.2.2.2.2.2.2.2.2.2.2.2.2.2.2.2.2.2.2.2
theorem mt332 {L : zY} (h : zMt L) : zt L 332 = 11 := h.1
def zMk (k : Nat) : Bool := [4, 7, 8, 9, 10, 11, 12, 13, 24, 25, 26, 27, 28, 29, 30, 31, 34, 35, 36, 37, 38, 39, 40, 41, 42, 43, 44, 47, 48, 49, 52, 54, 55, 56, 57, 58, 59, 60].contains k
theorem zMp_eq {m m' : zM} (e : ∀ k, zMk k = true → m' 332 k = m 332 k) (h : zMp m) : zMp m' := ⟨by rw [e 4 rfl]; exact mp4 h, by rw [e 7 rfl]; exact mp7 h, by rw [e 8 rfl]; exact mp8 h, by rw [e 9 rfl]; exact mp9 h, by rw [e 10 rfl]; exact mp10 h, by rw [e 11 rfl]; exact mp11 h, by rw [e 12 rfl]; exact mp12 h, by rw [e 13 rfl]; exact mp13 h, by rw [e 24 rfl]; exact mp24 h, by rw [e 25 rfl]; exact mp25 h, by rw [e 26 rfl]; exact mp26 h, by rw [e 27 rfl]; exact mp27 h, by rw [e 28 rfl]; exact mp28 h, by rw [e 29 rfl]; exact mp29 h, by rw [e 30 rfl]; exact mp30 h, by rw [e 31 rfl]; exact mp31 h, by rw [e 34 rfl]; exact mp34 h, by rw [e 35 rfl]; exact mp35 h, by rw [e 36 rfl]; exact mp36 h, by rw [e 37 rfl]; exact mp37 h, by rw [e 38 rfl]; exact mp38 h, by rw [e 39 rfl]; exact mp39 h, by rw [e 40 rfl]; exact mp40 h, by rw [e 41 rfl]; exact mp41 h, by rw [e 42 rfl]; exact mp42 h, by rw [e 43 rfl]; exact mp43 h, by rw [e 44 rfl]; exact mp44 h, by rw [e 47 rfl]; exact mp47 h, by rw [e 48 rfl]; exact mp48 h, by rw [e 49 rfl]; exact mp49 h, by rw [e 52 rfl]; exact mp52 h, by rw [e 54 rfl]; exact mp54 h, by rw [e 55 rfl]; exact mp55 h, by rw [e 56 rfl]; exact mp56 h, by rw [e 57 rfl]; exact mp57 h, by rw [e 58 rfl]; exact mp58 h, by rw [e 59 rfl]; exact mp59 h, by rw [e 60 rfl]; exact mp60 h⟩
theorem r_in {L : zY} {m : zM} {Q : zQ} {v a b : Int} : zwp 161 0 [zI v, zI a, zI b] [] L m Q ↔ Q (some (zI (if a ≤ v ∧ v ≤ b then 1 else 0))) L m := by
  simp only [s161_0, s161_1, s161_2, s161_5, s161_6, s161_7, s161_10, s161_11, s161_14, s161_15, Int.toNat_natCast, true_and, and_true, true_or, or_true, false_or, or_false, zwr_id, zpu_some, zpu_none, reduceIte, Int.reduceLE, Int.reduceLT, Int.reduceEq, Int.reduceNeg, Int.reduceAdd, Int.reduceSub, Int.reduceMul, Int.reduceToNat, Nat.reduceAdd, Nat.reduceLeDiff, Nat.reduceEqDiff, Nat.reduceLT, eq_self, ne_eq, not_false_eq_true, not_true_eq_false]
  by_cases h1 : v < a
  · rw [if_pos h1, if_neg (by omega)]
  · by_cases h2 : b < v
    · rw [if_neg h1, if_pos h2, if_neg (by omega)]
    · rw [if_neg h1, if_neg h2, if_pos (by omega)]
theorem r_no {L : zY} {m : zM} {Q : zQ} {why : Int} (t : zt L 332 = 11) : zwp 162 0 [zA 332, zI why] [] L m Q ↔ Q (some (zI (-1))) L (zup m 332 1 why) := by
  simp only [s162_0, s162_1, s162_2, s162_5, s162_6, Int.toNat_natCast, true_and, and_true, true_or, or_true, false_or, or_false, zwr_id, zpu_some, zpu_none, reduceIte, Int.reduceLE, Int.reduceLT, Int.reduceEq, Int.reduceNeg, Int.reduceAdd, Int.reduceSub, Int.reduceMul, Int.reduceToNat, Nat.reduceAdd, Nat.reduceLeDiff, Nat.reduceEqDiff, Nat.reduceLT, eq_self, ne_eq, not_false_eq_true, not_true_eq_false, t]
theorem r_refd {L : zY} {m : zM} {Q : zQ} {why : Int} (t : zt L 332 = 11) : zwp 163 0 [zA 332, zI why] [] L m Q ↔ Q (some (zI (if why = 0 then 0 else 1))) L (zup (zup (zup m 332 0 0) 332 3 (-1)) 332 1 why) := by
  simp only [s163_0, s163_1, s163_2, s163_5, s163_6, s163_7, s163_10, s163_11, s163_12, s163_15, s163_16, s163_19, s163_20, s163_23, s163_24, Int.toNat_natCast, true_and, and_true, true_or, or_true, false_or, or_false, zwr_id, zpu_some, zpu_none, reduceIte, Int.reduceLE, Int.reduceLT, Int.reduceEq, Int.reduceNeg, Int.reduceAdd, Int.reduceSub, Int.reduceMul, Int.reduceToNat, Nat.reduceAdd, Nat.reduceLeDiff, Nat.reduceEqDiff, Nat.reduceLT, eq_self, ne_eq, not_false_eq_true, not_true_eq_false, t]
  by_cases h : why = 0
  · rw [if_pos h, if_pos h]
  · rw [if_neg h, if_neg h]
